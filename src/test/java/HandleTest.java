/** Promises 3, 4 and 7: open, close, seek, and which handles are stale. */
public final class HandleTest {
    private static final int[] BAD_HANDLES = {-1, 6, Integer.MIN_VALUE, Integer.MAX_VALUE};

    public static void main(String[] args) {
        badArguments();
        leastClosedHandle();
        creating();
        otherKind();
        appending();
        emptying();
        noHandleIsClosed();
        noRoomToCreate();
        closing();
        seeking();
        staleByGeneration();
        generationsWrap();
        Check.end();
    }

    private static void badArguments() {
        JournaledFiles x = new JournaledFiles();
        for (int mode : new int[] {0, -1, 5, Integer.MIN_VALUE, Integer.MAX_VALUE}) {
            Check.bad("mode " + mode, () -> x.open(0, mode, false, false, false));
            Check.bad("bad before missing, mode " + mode, () -> x.open(9, mode, true, false, false));
        }
        for (int handle : BAD_HANDLES) {
            Check.bad("close " + handle, () -> x.close(handle));
            Check.bad("seek " + handle, () -> x.seek(handle, 0));
        }
    }

    private static void leastClosedHandle() {
        JournaledFiles x = new JournaledFiles();
        for (int handle = 0; handle < 4; handle++) {
            Check.due("open", x.open(0, 4, false, false, false), handle);
        }
        x.close(2);
        x.close(1);
        Check.due("least closed", x.open(0, 4, false, false, false), 1);
        Check.due("next one", x.open(0, 4, false, false, false), 2);
        Check.due("next one", x.open(0, 4, false, false, false), 4);
    }

    private static void creating() {
        JournaledFiles x = new JournaledFiles();
        for (int mode = 1; mode <= 4; mode++) {
            int m = mode;
            Check.missing("not there, mode " + m, () -> x.open(5, m, false, true, true));
        }
        Check.missing("mode 1 makes none", () -> x.open(5, 1, true, false, false));
        Check.missing("mode 4 makes none", () -> x.open(5, 4, true, false, false));
        Check.missing("below nothing", () -> x.open(0x0501, 2, true, false, false));
        Check.due("mode 2 makes one", x.open(5, 2, true, true, true), 0);
        Check.due("mode 3 makes one", x.open(6, 3, true, true, true), 1);
        Check.missing("below a file", () -> x.open(0x0501, 2, true, false, false));
        Check.due("a file", x.stat(5, 0), 1);
        Check.due("empty", x.stat(5, 1), 0);
        Check.due("inode", x.stat(6, 2), 2);
        Check.due("two entries in one block", x.count(0), 30);
        Check.due("opened again, not made", x.open(5, 2, true, false, false), 2);
        Check.due("no third one", x.stat(0, 4), 2);
        Check.due("inodes 0 to 2", Check.blocks(x, 1, 2),
                "02040101090000000100010100000000 01000101000000000000000000000000");
    }

    private static void otherKind() {
        JournaledFiles x = new JournaledFiles();
        x.directory(1);
        x.open(2, 2, true, false, false);
        for (int mode = 1; mode <= 3; mode++) {
            int m = mode;
            Check.refused("directory, mode " + m, () -> x.open(1, m, true, false, false));
            Check.refused("root, mode " + m, () -> x.open(0, m, true, false, false));
        }
        Check.refused("file, mode 4", () -> x.open(2, 4, true, false, false));
        Check.due("directory", x.open(1, 4, false, false, false), 1);
        Check.due("root", x.open(0, 4, false, false, false), 2);
    }

    private static void appending() {
        JournaledFiles x = new JournaledFiles();
        x.open(1, 2, true, false, false);
        x.write(0, 0x0605040302010FL, 7);
        x.open(1, 1, false, true, false);
        Check.due("mode 1 reads from the size on", x.read(1, 8), 0);
        x.seek(1, 6);
        Check.due("and from elsewhere", x.read(1, 8), 6);
        x.open(1, 2, false, true, false);
        x.write(2, 7, 1);
        x.open(1, 3, false, true, false);
        x.write(3, 8, 1);
        x.open(1, 2, false, false, false);
        x.write(4, 0, 1);
        x.open(1, 1, false, false, false);
        Check.due("position 0 without append", x.read(5, 8), 0x0706050403020100L);
        Check.due("last byte", x.read(5, 8), 8);
    }

    private static void emptying() {
        JournaledFiles x = new JournaledFiles();
        x.open(1, 2, true, false, false);
        x.truncate(1, 64);
        x.open(1, 1, false, false, true);
        Check.due("mode 1 empties none", x.stat(1, 1), 64);
        x.open(1, 3, false, false, false);
        Check.due("nor does mode 3 without empty", x.stat(1, 1), 64);
        Check.due("blocks used", x.count(0), 26);
        x.open(1, 3, false, true, true);
        Check.due("mode 3 empties", x.stat(1, 1), 0);
        Check.due("blocks are freed", x.count(0), 30);
        x.write(3, 0x55, 1);
        Check.due("append to the emptied file starts at 0", x.stat(1, 1), 1);
        Check.due("same generation", x.stat(1, 3), 1);
        Check.due("no handle got stale", x.count(6), 0);
        x.open(1, 2, false, false, true);
        Check.due("mode 2 empties", x.stat(1, 1), 0);
        Check.due("inode 1 has no blocks", Check.blocks(x, 1, 1), "02020101090000000100010100000000");
        Check.due("freed blocks are 0", Check.blocks(x, 10, 10), "00000000000000000000000000000000");
    }

    private static void noHandleIsClosed() {
        JournaledFiles x = new JournaledFiles();
        x.open(1, 2, true, false, false);
        x.write(0, 7, 1);
        x.directory(3);
        for (int handle = 1; handle < 6; handle++) {
            x.open(0, 4, false, false, false);
        }
        Check.bad("bad before full", () -> x.open(1, 9, false, false, false));
        Check.missing("missing before full", () -> x.open(2, 1, false, false, false));
        Check.refused("refused before full", () -> x.open(3, 2, false, false, false));
        Check.full("a new file", () -> x.open(2, 2, true, false, false));
        Check.missing("was not made", () -> x.stat(2, 0));
        Check.full("emptying", () -> x.open(1, 2, false, false, true));
        Check.due("was not emptied", x.stat(1, 1), 1);
        Check.full("a directory", () -> x.open(0, 4, false, false, false));
        x.close(3);
        Check.due("room again", x.open(2, 2, true, false, false), 3);
    }

    private static void noRoomToCreate() {
        JournaledFiles x = new JournaledFiles();
        for (int name = 1; name <= 8; name++) {
            x.open(name, 2, true, false, false);
            x.close(0);
        }
        for (int name = 1; name <= 7; name++) {
            x.truncate(name, 64);
        }
        x.truncate(8, 32);
        Check.full("no block for entry 9", () -> x.open(9, 2, true, false, false));
        Check.due("no handle was opened", x.count(2), 0);
        Check.due("no inode was taken", x.count(1), 3);
        x.truncate(8, 16);
        for (int name = 9; name <= 11; name++) {
            Check.due("room", x.open(name, 2, true, false, false), name - 9);
        }
        Check.full("no inode", () -> x.open(12, 2, true, false, false));
        Check.due("no entry came", x.stat(0, 4), 11);
    }

    private static void closing() {
        JournaledFiles x = new JournaledFiles();
        for (int handle = 0; handle < 6; handle++) {
            int h = handle;
            Check.refused("close of " + h, () -> x.close(h));
        }
        x.open(1, 2, true, false, false);
        x.close(0);
        Check.refused("closed already", () -> x.close(0));
        Check.refused("write on a closed one", () -> x.write(0, 1, 1));
        x.open(1, 2, false, false, false);
        x.remove(1);
        Check.fine("a stale one can be closed", () -> x.close(0));
        Check.due("none is open", x.count(2), 0);
    }

    private static void seeking() {
        JournaledFiles x = new JournaledFiles();
        x.open(1, 3, true, false, false);
        x.open(0, 4, false, false, false);
        for (int p : new int[] {-1, 65, Integer.MIN_VALUE, Integer.MAX_VALUE}) {
            Check.bad("seek to " + p, () -> x.seek(0, p));
            Check.bad("bad before refused, " + p, () -> x.seek(5, p));
        }
        Check.refused("not open", () -> x.seek(5, 0));
        Check.refused("a directory's", () -> x.seek(1, 0));
        x.write(0, 0x04030201, 4);
        x.seek(0, 64);
        Check.due("seeking makes no file longer", x.stat(1, 1), 4);
        Check.due("nothing to read there", x.read(0, 8), 0);
        x.seek(0, 2);
        Check.due("reads from there", x.read(0, 1), 3);
        x.seek(0, 0);
        Check.due("from the start", x.read(0, 8), 0x04030201);
        x.open(1, 1, false, false, false);
        x.open(1, 2, false, false, false);
        Check.fine("mode 1", () -> x.seek(2, 5));
        Check.fine("mode 2", () -> x.seek(3, 5));
        x.remove(1);
        Check.refused("stale", () -> x.seek(0, 0));
    }

    private static void staleByGeneration() {
        JournaledFiles x = new JournaledFiles();
        x.open(1, 3, true, false, false);
        x.remove(1);
        Check.due("free: stale", x.count(6), 1);
        x.open(1, 3, true, false, false);
        Check.due("the same inode", x.stat(1, 2), 1);
        Check.due("another generation", x.stat(1, 3), 2);
        Check.due("the old one stays stale", x.count(6), 1);
        Check.refused("read", () -> x.read(0, 1));
        Check.refused("write", () -> x.write(0, 1, 0));
        Check.fine("the new one is fine", () -> x.write(1, 1, 1));
        x.rename(1, 2);
        Check.due("a rename makes none stale", x.count(6), 1);
        Check.fine("it still writes", () -> x.write(1, 1, 1));
    }

    /** The last look is the object's 512th call. */
    private static void generationsWrap() {
        JournaledFiles x = new JournaledFiles();
        x.directory(1);
        for (int k = 0; k < 254; k++) {
            x.remove(1);
            x.directory(1);
        }
        x.remove(1);
        Check.due("then 0", x.directory(1) == 1 ? x.stat(1, 3) : -1, 0);
    }
}
