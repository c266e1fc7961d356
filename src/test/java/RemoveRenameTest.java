/** Promises 9 and 10: remove, rename. */
public final class RemoveRenameTest {
    private static final String ZEROS = "00000000000000000000000000000000";

    public static void main(String[] args) {
        removing();
        removeThrows();
        removedPlaces();
        removeFreesADirectoryBlock();
        renaming();
        renameThrows();
        renameOrder();
        renameOntoAFile();
        renameOntoTheLastEntry();
        renameOfADirectory();
        renameToTheEnd();
        renameUsesWhatItFrees();
        renameMovesTheSecondBlock();
        renameFull();
        Check.end();
    }

    private static void file(JournaledFiles x, int path, int size) {
        int handle = x.open(path, 2, true, false, false);
        x.close(handle);
        x.truncate(path, size);
    }

    private static void removing() {
        JournaledFiles x = new JournaledFiles();
        x.open(1, 3, true, false, false);
        x.write(0, -1L, 8);
        x.truncate(1, 40);
        x.remove(1);
        Check.missing("it's gone", () -> x.stat(1, 0));
        Check.due("all blocks are free", x.count(0), 31);
        Check.due("its inode is", x.count(1), 11);
        Check.due("map and inodes: the generation is kept", Check.blocks(x, 0, 1),
                "ff010000000000000000000000000000 02000101000000000000000100000000");
        Check.due("freed blocks are 0", Check.blocks(x, 9, 10), ZEROS + " " + ZEROS);
        Check.due("its handle is stale", x.count(6), 1);
        Check.refused("and reads no more", () -> x.read(0, 1));
        x.directory(1);
        Check.due("next generation", x.stat(1, 3), 2);
        x.remove(1);
        Check.due("an empty directory goes", x.count(1), 11);
    }

    private static void removeThrows() {
        JournaledFiles x = new JournaledFiles();
        Check.refused("the root, empty", () -> x.remove(0));
        x.directory(1);
        file(x, 0x0102, 0);
        Check.refused("the root", () -> x.remove(0));
        Check.refused("with entries", () -> x.remove(1));
        Check.missing("nothing there", () -> x.remove(2));
        Check.missing("below a file", () -> x.remove(0x010203));
        Check.missing("below nothing", () -> x.remove(0x0203));
        Check.due("all is there", x.count(1), 9);
        x.remove(0x0102);
        Check.fine("without entries", () -> x.remove(1));
    }

    private static void removedPlaces() {
        JournaledFiles x = new JournaledFiles();
        for (int name = 1; name <= 5; name++) {
            file(x, name, 0);
        }
        x.remove(2);
        Check.due("the last one takes its place", Check.blocks(x, 9, 9), "01010505030304040000000000000000");
        x.remove(4);
        Check.due("the last one goes itself", Check.blocks(x, 9, 9), "01010505030300000000000000000000");
        Check.due("shorter", x.stat(0, 1), 6);
    }

    private static void removeFreesADirectoryBlock() {
        JournaledFiles x = new JournaledFiles();
        for (int name = 1; name <= 9; name++) {
            file(x, name, 0);
        }
        Check.due("two blocks", x.count(0), 29);
        x.remove(1);
        Check.due("one block", x.count(0), 30);
        Check.due("root", Check.blocks(x, 1, 1).substring(0, 16), "0210010109000000");
        Check.due("entries", Check.blocks(x, 9, 10), "09090202030304040505060607070808 " + ZEROS);
    }

    private static void renaming() {
        JournaledFiles x = new JournaledFiles();
        x.open(1, 3, true, false, false);
        x.write(0, 0x2A, 1);
        file(x, 2, 0);
        x.directory(3);
        x.rename(1, 0x0301);
        Check.missing("from is gone", () -> x.stat(1, 0));
        Check.due("same inode", x.stat(0x0301, 2), 1);
        Check.due("same generation", x.stat(0x0301, 3), 1);
        Check.due("same size", x.stat(0x0301, 1), 1);
        Check.due("handles go on", x.count(6), 0);
        x.seek(0, 0);
        Check.due("same bytes", x.read(0, 8), 0x2A);
        Check.due("root: 3 took the place of 1", Check.blocks(x, 9, 9), "03030202000000000000000000000000");
        x.rename(0x0301, 1);
        Check.due("back, as the last one", Check.blocks(x, 9, 9), "03030202010100000000000000000000");
        Check.due("the emptied directory has no block", x.stat(3, 1), 0);
        Check.due("it was freed", x.count(0), 29);
        x.rename(3, 4);
        Check.due("in one directory: last one, then new one", Check.blocks(x, 9, 9),
                "01010202040300000000000000000000");
    }

    private static void renameThrows() {
        JournaledFiles x = new JournaledFiles();
        x.directory(1);
        x.directory(0x0102);
        file(x, 3, 0);
        x.directory(4);
        Check.refused("from the root", () -> x.rename(0, 9));
        Check.refused("to the root", () -> x.rename(3, 0));
        Check.refused("the root to itself", () -> x.rename(0, 0));
        Check.refused("the root below itself", () -> x.rename(0, 0x0109));
        Check.refused("a file to itself", () -> x.rename(3, 3));
        Check.refused("a directory to itself", () -> x.rename(1, 1));
        Check.refused("below itself", () -> x.rename(1, 0x0109));
        Check.refused("below itself, where something is", () -> x.rename(1, 0x0102));
        Check.refused("further below itself", () -> x.rename(1, 0x010209));
        Check.refused("onto what it is in", () -> x.rename(0x0102, 1));
        Check.refused("file to directory", () -> x.rename(3, 4));
        Check.refused("directory to file", () -> x.rename(4, 3));
        Check.refused("directory to empty directory", () -> x.rename(1, 4));
        Check.due("nothing changed", Check.blocks(x, 9, 10),
                "01010303040400000000000000000000 02020000000000000000000000000000");
    }

    private static void renameOrder() {
        JournaledFiles x = new JournaledFiles();
        x.directory(1);
        file(x, 2, 0);
        Check.missing("from", () -> x.rename(9, 3));
        Check.missing("to's directory", () -> x.rename(2, 0x0903));
        Check.missing("to is below a file", () -> x.rename(1, 0x0203));
        Check.missing("from is below a file", () -> x.rename(0x0203, 3));
        Check.missing("what is missing to itself", () -> x.rename(9, 9));
        Check.missing("what is missing to the root", () -> x.rename(9, 0));
        Check.missing("the root to below nothing", () -> x.rename(0, 0x0901));
        Check.missing("below itself, but below nothing", () -> x.rename(1, 0x010905));
        Check.missing("below itself, a file", () -> x.rename(2, 0x0205));
        Check.bad("bad before missing", () -> x.rename(9, 0x0100));
        Check.bad("bad before missing", () -> x.rename(0x0100, 9));
        Check.due("nothing changed", Check.blocks(x, 9, 9), "01010202000000000000000000000000");
    }

    private static void renameOntoAFile() {
        JournaledFiles x = new JournaledFiles();
        x.open(1, 3, true, false, false);
        x.write(0, 0x11, 1);
        x.directory(2);
        x.open(0x0203, 3, true, false, false);
        x.write(1, 0x33, 1);
        file(x, 0x0204, 0);
        x.rename(1, 0x0203);
        Check.due("the entry stays where it stands", Check.blocks(x, 11, 11), "03010404000000000000000000000000");
        Check.due("the inode of from", x.stat(0x0203, 2), 1);
        Check.due("its size", x.stat(0x0203, 1), 1);
        Check.due("the replaced file's handle is stale", x.count(6), 1);
        Check.refused("it writes no more", () -> x.write(1, 1, 1));
        Check.fine("the other one does", () -> x.write(0, 1, 1));
        Check.due("freed inode 3 keeps its generation", Check.blocks(x, 2, 2).substring(16), "0000000100000000");
        Check.due("freed block is 0", Check.blocks(x, 12, 12), ZEROS);
        Check.due("root has one entry", x.stat(0, 4), 1);
        Check.due("freed blocks", x.count(0), 28);
    }

    private static void renameOntoTheLastEntry() {
        JournaledFiles x = new JournaledFiles();
        for (int name = 1; name <= 3; name++) {
            file(x, name, 0);
        }
        x.rename(1, 3);
        Check.due("the last entry moved first, then it changed", Check.blocks(x, 9, 9),
                "03010202000000000000000000000000");
        x.rename(2, 3);
        Check.due("from was the last one", Check.blocks(x, 9, 9), "03020000000000000000000000000000");
        Check.due("two inodes are in use", x.count(1), 10);
    }

    private static void renameOfADirectory() {
        JournaledFiles x = new JournaledFiles();
        x.directory(1);
        x.directory(0x0102);
        x.directory(0x010203);
        file(x, 0x01020304, 5);
        x.directory(7);
        x.directory(0x12);
        x.rename(0x010203, 0x0703);
        Check.due("what was below it came along", x.stat(0x070304, 1), 5);
        Check.missing("and is there no more", () -> x.stat(0x01020304, 0));
        x.rename(1, 0x0701);
        Check.due("two levels", x.stat(0x070102, 0), 2);
        Check.fine("a path that ends like from is not below it", () -> x.rename(0x12, 0x0712));
    }

    private static void renameToTheEnd() {
        JournaledFiles x = new JournaledFiles();
        for (int name = 1; name <= 11; name++) {
            file(x, name, 0);
        }
        x.rename(11, 12);
        Check.due("no inode is needed", x.stat(12, 2), 11);
        x.rename(1, 13);
        Check.due("the first one became the last one", Check.blocks(x, 9, 10),
                "0c0b0202030304040505060607070808 09090a0a0d0100000000000000000000");
    }

    private static void renameUsesWhatItFrees() {
        JournaledFiles x = new JournaledFiles();
        x.directory(1);
        x.directory(2);
        file(x, 0x0101, 64);
        for (int name = 3; name <= 8; name++) {
            file(x, name, 64);
        }
        file(x, 9, 0);
        Check.due("no block is free", x.count(0), 0);
        Check.due("the directory's only block", x.block(1, 12, false), 10);
        x.rename(0x0101, 0x0201);
        Check.due("it went to the other directory", x.block(2, 4, false), 10);
        Check.due("none is free", x.count(0), 0);
        Check.due("entry", Check.blocks(x, 10, 10), "01030000000000000000000000000000");
        x.rename(0x0201, 0x0202);
        Check.due("the same within one directory", Check.blocks(x, 10, 10), "02030000000000000000000000000000");
    }

    /** The second block is freed by from's entry and the least free one comes for to's. */
    private static void renameMovesTheSecondBlock() {
        JournaledFiles x = new JournaledFiles();
        file(x, 1, 16);
        for (int name = 2; name <= 9; name++) {
            file(x, name, 0);
        }
        Check.due("the root's blocks", Check.blocks(x, 1, 1).substring(0, 16), "02120101090b0000");
        x.truncate(1, 0);
        x.rename(2, 10);
        Check.due("now others", Check.blocks(x, 1, 1).substring(0, 16), "02120101090a0000");
        Check.due("entries", Check.blocks(x, 9, 11),
                "01010909030304040505060607070808 0a020000000000000000000000000000 " + ZEROS);
    }

    private static void renameFull() {
        JournaledFiles x = new JournaledFiles();
        x.directory(1);
        for (int name = 2; name <= 8; name++) {
            file(x, name, 64);
        }
        x.open(9, 2, true, false, false);
        x.write(0, 1, 1);
        file(x, 10, 0);
        Check.due("no block is free", x.count(0), 0);
        String before = Check.blocks(x, 0, 10);
        Check.full("no block for the entry", () -> x.rename(2, 0x0102));
        Check.due("nothing changed", Check.blocks(x, 0, 10), before);
        Check.refused("refused before full", () -> x.rename(1, 0x0101));
        Check.fine("onto a file: no block is needed", () -> x.rename(2, 3));
        Check.due("the file that was there is freed", x.count(0), 4);
    }
}
