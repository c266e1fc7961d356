/** Promises 5, 6 and 11: write, read, truncate. */
public final class BytesTest {
    private static final int[] BAD_NUMBERS = {-1, 9, Integer.MIN_VALUE, Integer.MAX_VALUE};
    private static final int[] BAD_HANDLES = {-1, 6, Integer.MIN_VALUE, Integer.MAX_VALUE};
    private static final String ZEROS = "00000000000000000000000000000000";

    public static void main(String[] args) {
        badArguments();
        refusedHandles();
        everyLength();
        overwriting();
        acrossBlocks();
        gapsAreZero();
        nothingWritten();
        upTo64();
        noBlockForAWrite();
        readingAtTheEnd();
        truncating();
        truncateThrows();
        noBlockForATruncate();
        leastFreeBlocks();
        Check.end();
    }

    private static JournaledFiles withFile() {
        JournaledFiles x = new JournaledFiles();
        x.open(1, 3, true, false, false);
        return x;
    }

    private static void badArguments() {
        JournaledFiles x = withFile();
        for (int n : BAD_NUMBERS) {
            Check.bad("write of " + n, () -> x.write(0, 1, n));
            Check.bad("read of " + n, () -> x.read(0, n));
            Check.bad("write of " + n + ", bad before refused", () -> x.write(5, 1, n));
            Check.bad("read of " + n + ", bad before refused", () -> x.read(5, n));
        }
        for (int handle : BAD_HANDLES) {
            Check.bad("write on " + handle, () -> x.write(handle, 1, 1));
            Check.bad("read on " + handle, () -> x.read(handle, 1));
        }
    }

    private static void refusedHandles() {
        JournaledFiles x = withFile();
        x.open(1, 1, false, false, false);
        x.open(1, 2, false, false, false);
        x.open(0, 4, false, false, false);
        for (int n : new int[] {0, 1}) {
            Check.refused("write, not open, " + n, () -> x.write(4, 1, n));
            Check.refused("read, not open, " + n, () -> x.read(4, n));
            Check.refused("write by mode 1, " + n, () -> x.write(1, 1, n));
            Check.refused("read by mode 2, " + n, () -> x.read(2, n));
            Check.refused("write by mode 4, " + n, () -> x.write(3, 1, n));
            Check.refused("read by mode 4, " + n, () -> x.read(3, n));
        }
        Check.fine("write by mode 2", () -> x.write(2, 1, 1));
        Check.fine("read by mode 1", () -> x.read(1, 1));
        x.seek(0, 64);
        x.remove(1);
        Check.refused("write, stale, before full", () -> x.write(0, 1, 1));
        Check.refused("read, stale", () -> x.read(0, 1));
    }

    private static void everyLength() {
        long bytes = 0xF8E7D6C5B4A39281L;
        for (int n = 0; n <= 8; n++) {
            JournaledFiles x = withFile();
            x.write(0, bytes, n);
            Check.due("size after " + n, x.stat(1, 1), n);
            x.seek(0, 0);
            Check.due("read of 8 after " + n, x.read(0, 8), n == 8 ? bytes : bytes & ((1L << (8 * n)) - 1));
            JournaledFiles y = withFile();
            y.write(0, bytes, 8);
            y.seek(0, 0);
            Check.due("read of " + n, y.read(0, n), n == 8 ? bytes : bytes & ((1L << (8 * n)) - 1));
            Check.due("the rest", y.read(0, 8), n == 8 ? 0 : bytes >>> (8 * n));
        }
    }

    private static void overwriting() {
        JournaledFiles x = withFile();
        x.write(0, -1L, 8);
        x.seek(0, 2);
        x.write(0, 0x2211, 2);
        x.write(0, 0x33, 1);
        Check.due("not longer", x.stat(1, 1), 8);
        Check.due("bytes", Check.blocks(x, 10, 10), "ffff112233ffffff0000000000000000");
        Check.due("position is behind them", x.read(0, 8), 0xFFFFFFL);
    }

    private static void acrossBlocks() {
        JournaledFiles x = withFile();
        x.seek(0, 12);
        x.write(0, 0x0807060504030201L, 8);
        Check.due("both blocks", Check.blocks(x, 10, 11),
                "00000000000000000000000001020304 05060708000000000000000000000000");
        x.seek(0, 13);
        Check.due("read across", x.read(0, 5), 0x0605040302L);
        Check.due("inode", Check.blocks(x, 1, 1), "0202010109000000" + "011401010a0b0000");
    }

    private static void gapsAreZero() {
        JournaledFiles x = withFile();
        x.write(0, 0xFFFFFF, 3);
        x.seek(0, 40);
        Check.due("seek alone takes no block", x.count(0), 29);
        x.write(0, 0xEE, 1);
        Check.due("size", x.stat(1, 1), 41);
        Check.due("blocks of the gap, too", x.count(0), 27);
        Check.due("bytes", Check.blocks(x, 10, 12),
                "ffffff00000000000000000000000000 " + ZEROS + " 0000000000000000ee00000000000000");
        x.truncate(1, 1);
        x.seek(0, 2);
        x.write(0, 0xDD, 1);
        Check.due("what was cut off does not come back", Check.blocks(x, 10, 10),
                "ff00dd00000000000000000000000000");
    }

    private static void nothingWritten() {
        JournaledFiles x = withFile();
        x.seek(0, 64);
        Check.fine("0 bytes at 64", () -> x.write(0, -1, 0));
        x.seek(0, 20);
        x.write(0, -1, 0);
        Check.due("not longer", x.stat(1, 1), 0);
        Check.due("no block", x.count(0), 30);
        x.write(0, 5, 1);
        Check.due("position stayed", x.stat(1, 1), 21);
        x.seek(0, 20);
        Check.due("read of none", x.read(0, 0), 0);
        Check.due("position stayed", x.read(0, 1), 5);
    }

    private static void upTo64() {
        JournaledFiles x = withFile();
        x.seek(0, 57);
        Check.full("byte 65", () -> x.write(0, -1, 8));
        Check.due("nothing changed", x.stat(1, 1), 0);
        Check.due("no block", x.count(0), 30);
        x.write(0, 0x77, 7);
        Check.due("position had stayed", x.stat(1, 1), 64);
        Check.full("at 64", () -> x.write(0, 1, 1));
        x.seek(0, 63);
        Check.full("over 64", () -> x.write(0, 1, 2));
        Check.fine("up to 64", () -> x.write(0, 0xAB, 1));
        Check.due("last byte", x.block(13, 15, false), 0xAB);
        x.seek(0, 56);
        Check.due("read", x.read(0, 8), 0xAB00000000007700L);
    }

    /** An empty file 0x20 with handle 0, seven files of 64 bytes, and two free blocks. */
    private static JournaledFiles withTwoFreeBlocks() {
        JournaledFiles x = new JournaledFiles();
        x.open(0x20, 3, true, false, false);
        for (int name = 1; name <= 7; name++) {
            x.open(name, 2, true, false, false);
            x.close(1);
            x.truncate(name, 64);
        }
        return x;
    }

    private static void noBlockForAWrite() {
        JournaledFiles x = withTwoFreeBlocks();
        Check.due("two blocks are left", x.count(0), 2);
        x.seek(0, 32);
        Check.full("three are needed", () -> x.write(0, 0xAA, 1));
        Check.due("none was taken", x.count(0), 2);
        Check.due("not longer", x.stat(0x20, 1), 0);
        x.seek(0, 31);
        Check.full("the third for the second byte", () -> x.write(0, 0xAA, 2));
        x.write(0, 0xAA, 1);
        Check.due("position had stayed", x.stat(0x20, 1), 32);
        Check.due("both taken", x.count(0), 0);
        Check.full("one more", () -> x.write(0, 0xAA, 1));
        x.seek(0, 24);
        Check.fine("what is there can be written", () -> x.write(0, -1, 8));
    }

    private static void readingAtTheEnd() {
        JournaledFiles x = withFile();
        x.write(0, 0x030201, 3);
        Check.due("at the end", x.read(0, 8), 0);
        x.seek(0, 1);
        Check.due("as many as there are", x.read(0, 8), 0x0302);
        x.write(0, 4, 1);
        Check.due("position was at the end", x.stat(1, 1), 4);
        x.seek(0, 10);
        Check.due("behind the end", x.read(0, 8), 0);
        x.write(0, 5, 1);
        Check.due("position stayed there", x.stat(1, 1), 11);
    }

    private static void truncating() {
        JournaledFiles x = withFile();
        for (int k = 0; k < 8; k++) {
            x.write(0, -1L, 8);
        }
        x.truncate(1, 33);
        Check.due("size", x.stat(1, 1), 33);
        Check.due("one block freed", x.count(0), 27);
        Check.due("cut off bytes are 0", Check.blocks(x, 11, 13),
                "ffffffffffffffffffffffffffffffff ff000000000000000000000000000000 " + ZEROS);
        x.truncate(1, 32);
        Check.due("another block freed", x.count(0), 28);
        Check.due("inode", Check.blocks(x, 1, 1), "0202010109000000" + "012001010a0b0000");
        x.truncate(1, 32);
        Check.due("the same size", x.count(0), 28);
        x.truncate(1, 64);
        Check.due("0s behind", Check.blocks(x, 12, 13), ZEROS + " " + ZEROS);
        Check.due("inode", Check.blocks(x, 1, 1), "0202010109000000" + "014001010a0b0c0d");
        x.truncate(1, 0);
        Check.due("empty", Check.blocks(x, 1, 1), "0202010109000000" + "0100010100000000");
        Check.due("map", Check.blocks(x, 0, 0), "ff030000000000000000000000000000");
        Check.due("handles keep their position", x.read(0, 8), 0);
        x.truncate(1, 64);
        Check.due("at 64", x.read(0, 8), 0);
        Check.full("at 64", () -> x.write(0, 1, 1));
    }

    private static void truncateThrows() {
        JournaledFiles x = withFile();
        x.directory(2);
        for (int n : new int[] {-1, 65, Integer.MIN_VALUE, Integer.MAX_VALUE}) {
            Check.bad("size " + n, () -> x.truncate(1, n));
            Check.bad("bad before missing, size " + n, () -> x.truncate(9, n));
            Check.bad("bad before refused, size " + n, () -> x.truncate(2, n));
        }
        Check.missing("nothing there", () -> x.truncate(9, 0));
        Check.missing("below a file", () -> x.truncate(0x0101, 0));
        Check.refused("a directory", () -> x.truncate(2, 0));
        Check.refused("the root", () -> x.truncate(0, 0));
    }

    private static void noBlockForATruncate() {
        JournaledFiles x = withTwoFreeBlocks();
        Check.full("three are needed", () -> x.truncate(0x20, 33));
        Check.due("not longer", x.stat(0x20, 1), 0);
        Check.due("none was taken", x.count(0), 2);
        Check.fine("two are needed", () -> x.truncate(0x20, 32));
        Check.due("the last block", x.block(0, 4, false), 255);
        Check.full("one more", () -> x.truncate(0x20, 33));
        Check.fine("shorter", () -> x.truncate(0x20, 31));
        Check.fine("as long as before, in the same block", () -> x.truncate(0x20, 32));
    }

    private static void leastFreeBlocks() {
        JournaledFiles x = withFile();
        x.truncate(1, 32);
        x.open(2, 2, true, false, false);
        x.truncate(2, 32);
        x.truncate(1, 0);
        x.truncate(2, 64);
        Check.due("the freed ones come first", Check.blocks(x, 2, 2), "014001010c0d0a0b" + "0000000000000000");
        x.truncate(1, 16);
        Check.due("then the next", x.block(1, 12, false), 14);
    }
}
