/** Promises 2, 8, 12 and 18: directory, next, stat, and which paths are bad. */
public final class DirectoryTest {
    private static final int[] BAD_PATHS = {
        0x100, 0x10000, 0x1000000, 0x01000002, 0x010002, 0x01000200, 0x01020300, 0x010200, 0x01020003,
        0x80000000, 0xFF000000, 0xFF00FF00, 0xFFFFFF00,
    };

    public static void main(String[] args) {
        badPaths();
        pathsOfEveryLength();
        refusedAndMissing();
        bytesOfDirectories();
        fullOfInodes();
        fullOfBlocks();
        listing();
        listingRefused();
        stats();
        Check.end();
    }

    private static void badPaths() {
        JournaledFiles x = new JournaledFiles();
        x.directory(1);
        x.directory(0x0102);
        for (int path : BAD_PATHS) {
            String text = Integer.toHexString(path);
            Check.bad("directory " + text, () -> x.directory(path));
            Check.bad("open " + text, () -> x.open(path, 2, true, false, false));
            Check.bad("remove " + text, () -> x.remove(path));
            Check.bad("rename from " + text, () -> x.rename(path, 5));
            Check.bad("rename to " + text, () -> x.rename(1, path));
            Check.bad("rename of what is missing to " + text, () -> x.rename(7, path));
            Check.bad("truncate " + text, () -> x.truncate(path, 0));
            Check.bad("stat " + text, () -> x.stat(path, 0));
        }
        Check.due("nothing was made", x.count(1), 9);
    }

    private static void pathsOfEveryLength() {
        JournaledFiles x = new JournaledFiles();
        Check.due("one name", x.directory(0xFF), 1);
        Check.due("two names", x.directory(0xFFFF), 2);
        Check.due("three names", x.directory(0xFFFFFF), 3);
        Check.due("four names, a negative int", x.directory(-1), 4);
        Check.due("a sibling of it", x.directory(0xFFFFFF01), 5);
        Check.due("inode of four names", x.stat(-1, 2), 4);
        Check.due("inode of its sibling", x.stat(0xFFFFFF01, 2), 5);
        Check.due("entries above them", x.stat(0xFFFFFF, 4), 2);
    }

    private static void refusedAndMissing() {
        JournaledFiles x = new JournaledFiles();
        x.directory(1);
        x.open(2, 2, true, false, false);
        Check.refused("the root", () -> x.directory(0));
        Check.refused("a directory is there", () -> x.directory(1));
        Check.refused("a file is there", () -> x.directory(2));
        Check.missing("below nothing", () -> x.directory(0x0301));
        Check.missing("below a file", () -> x.directory(0x0201));
        Check.missing("below what is missing below a directory", () -> x.directory(0x010203));
        Check.due("none of these made one", x.count(1), 9);
    }

    private static void bytesOfDirectories() {
        JournaledFiles x = new JournaledFiles();
        x.directory(7);
        x.directory(0x0708);
        x.directory(9);
        Check.due("map, inodes 0 to 3", Check.blocks(x, 0, 2),
                "ff070000000000000000000000000000"
                + " 0204010109000000020201010a000000"
                + " 02000101000000000200010100000000");
        Check.due("entries", Check.blocks(x, 9, 11),
                "07010903000000000000000000000000"
                + " 08020000000000000000000000000000"
                + " 00000000000000000000000000000000");
    }

    private static void fullOfInodes() {
        JournaledFiles x = new JournaledFiles();
        for (int name = 1; name <= 11; name++) {
            Check.due("inode of directory " + name, x.directory(name), name);
        }
        Check.due("eleven entries in two blocks", x.count(0), 29);
        Check.full("no inode is free", () -> x.directory(12));
        Check.refused("refused before full", () -> x.directory(11));
        Check.missing("missing before full", () -> x.directory(0x0C01));
        Check.due("nothing changed", x.stat(0, 4), 11);
        x.remove(4);
        Check.due("the least free inode", x.directory(12), 4);
        Check.due("one generation on", x.stat(12, 3), 2);
    }

    private static void fullOfBlocks() {
        JournaledFiles x = new JournaledFiles();
        x.directory(1);
        fillBlocks(x);
        Check.due("no block is free", x.count(0), 0);
        Check.full("no block for the first entry", () -> x.directory(0x0102));
        Check.due("no inode was taken", x.count(1), 2);
        Check.due("no entry came", x.stat(1, 4), 0);
        Check.fine("a block that has room takes one more", () -> x.directory(0xB0));
        x.remove(0xB0);
        x.truncate(9, 48);
        Check.due("the freed block serves", x.directory(0x0102), 10);
        Check.due("and is used up", x.count(0), 0);
    }

    /** Leaves 9 entries in the root, 2 free inodes and no free block. */
    private static void fillBlocks(JournaledFiles x) {
        for (int name = 2; name <= 9; name++) {
            x.open(name, 2, true, false, false);
            x.close(0);
        }
        for (int name = 3; name <= 9; name++) {
            x.truncate(name, 64);
        }
        x.truncate(2, 16);
    }

    private static void listing() {
        JournaledFiles x = new JournaledFiles();
        x.directory(1);
        x.open(1, 4, false, false, false);
        Check.due("empty", x.next(0), 0);
        for (int name = 0xF0; name < 0xFA; name++) {
            x.directory(0x0100 | name);
        }
        for (int name = 0xF0; name < 0xF9; name++) {
            Check.due("entry of " + name, x.next(0), name);
        }
        x.remove(0x01F2);
        Check.due("fewer entries than the position", x.next(0), 0);
        Check.due("position stays", x.next(0), 0);
        x.directory(0x0105);
        Check.due("an entry came to the position", x.next(0), 5);
        Check.due("behind the last one", x.next(0), 0);
        x.open(1, 4, false, true, true);
        int[] names = {0xF0, 0xF1, 0xF9, 0xF3, 0xF4, 0xF5, 0xF6, 0xF7, 0xF8, 5, 0, 0};
        for (int name : names) {
            Check.due("the last one took the removed one's place", x.next(1), name);
        }
    }

    private static void listingRefused() {
        JournaledFiles x = new JournaledFiles();
        x.directory(1);
        x.open(2, 3, true, false, false);
        x.open(1, 4, false, false, false);
        for (int handle : new int[] {-1, 6, Integer.MIN_VALUE, Integer.MAX_VALUE}) {
            Check.bad("handle " + handle, () -> x.next(handle));
        }
        Check.refused("not open", () -> x.next(5));
        Check.refused("a file's handle", () -> x.next(0));
        x.remove(1);
        Check.refused("stale: free", () -> x.next(1));
        x.directory(1);
        Check.refused("stale: another generation", () -> x.next(1));
    }

    private static void stats() {
        JournaledFiles x = new JournaledFiles();
        x.directory(1);
        x.open(0x0102, 2, true, false, false);
        x.write(0, 0, 5);
        x.directory(0x0103);
        int[] file = {1, 5, 2, 1, 0};
        int[] directory = {2, 4, 1, 1, 2};
        for (int what = 0; what <= 4; what++) {
            Check.due("file, " + what, x.stat(0x0102, what), file[what]);
            Check.due("directory, " + what, x.stat(1, what), directory[what]);
        }
        for (int what : new int[] {-1, 5, Integer.MIN_VALUE, Integer.MAX_VALUE}) {
            Check.bad("what " + what, () -> x.stat(1, what));
            Check.bad("bad before missing, what " + what, () -> x.stat(9, what));
        }
        Check.missing("nothing there", () -> x.stat(9, 0));
        Check.missing("below a file", () -> x.stat(0x010204, 0));
        Check.missing("below nothing", () -> x.stat(0x0901, 0));
    }
}
