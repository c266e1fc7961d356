/** Promise 1, the boundary cases of a new object. */
public final class Promise01NewObjectTest {
    public static void main(String[] args) {
        Cases.run(Promise01NewObjectTest.class);
    }

    static void promise01_theRootIsAnEmptyDirectory() {
        JournaledFiles x = new JournaledFiles();
        Check.due("KIND", x.stat(0, 0), 2);
        Check.due("SIZE", x.stat(0, 1), 0);
        Check.due("INODE", x.stat(0, 2), 0);
        Check.due("GENERATION", x.stat(0, 3), 1);
        Check.due("ENTRIES", x.stat(0, 4), 0);
        x.open(0, 4, false, false, false);
        Check.due("no NAME", x.next(0), 0);
    }

    static void promise01_theRootsBytesAreThere() {
        JournaledFiles x = new JournaledFiles();
        Check.due("INODE 0", Given.inode(x, 0), "0200010100000000");
    }

    static void promise01_theRootIsCommitted() {
        JournaledFiles x = new JournaledFiles();
        int[] root = {2, 0, 1, 1, 0, 0, 0, 0};
        for (int i = 0; i < root.length; i++) {
            Check.due("byte " + i, x.block(1, i, true), root[i]);
        }
        Check.due("no block differs", x.count(3), 0);
        Check.due("nothing is written", x.commit(), 0);
    }

    static void promise01_theMapIsCommitted() {
        JournaledFiles x = new JournaledFiles();
        Check.due("blocks 0 to 7", x.block(0, 0, true), 255);
        Check.due("block 8", x.block(0, 1, true), 1);
        for (int i = 2; i < 16; i++) {
            Check.due("byte " + i, x.block(0, i, true), 0);
        }
    }

    static void promise01_theRootOutlastsACrashAtOnce() {
        JournaledFiles x = new JournaledFiles();
        x.crash();
        Check.due("KIND", x.stat(0, 0), 2);
        Check.due("GENERATION", x.stat(0, 3), 1);
    }

    static void promise01_allOtherInodesAreFree() {
        JournaledFiles x = new JournaledFiles();
        Check.due("free INODES", x.count(1), 11);
        for (int inode = 1; inode <= 11; inode++) {
            Check.due("INODE " + inode, Given.inode(x, inode), "0000000000000000");
        }
    }

    static void promise01_noBlockBehindBlock8IsUsed() {
        JournaledFiles x = new JournaledFiles();
        Check.due("free blocks", x.count(0), 31);
        Check.due("the map", Check.blocks(x, 0, 0), "ff010000000000000000000000000000");
        for (int b = 9; b < 40; b += 10) {
            Check.due("block " + b, Check.blocks(x, b, b), Given.ZEROS);
        }
    }

    static void promise01_allHandlesAreClosed() {
        JournaledFiles x = new JournaledFiles();
        Check.due("open HANDLES", x.count(2), 0);
        for (int handle = 0; handle < 6; handle++) {
            int h = handle;
            Check.refused("close of " + h, () -> x.close(h));
        }
    }

    static void promise01_noPowerCutIsSet() {
        JournaledFiles x = new JournaledFiles();
        for (int k = 0; k < 8; k++) {
            x.directory(1);
            Check.due("commit", x.commit(), 7);
            x.remove(1);
            Check.due("commit", x.commit(), 7);
        }
        Check.due("more than 100 writes", x.count(4), 112);
        Check.due("power stayed on", x.count(5), 0);
    }

    static void promise01_twoObjectsShareNothing() {
        JournaledFiles x = new JournaledFiles();
        JournaledFiles y = new JournaledFiles();
        x.open(1, 3, true, false, false);
        x.write(0, -1, 8);
        x.commit();
        x.crash();
        x.cutPower(1);
        Check.due("no file", y.stat(0, 4), 0);
        Check.due("no HANDLE", y.count(2), 0);
        Check.due("no write", y.count(4), 0);
        Check.due("power stayed on", y.count(5), 0);
        y.directory(1);
        Check.due("no cut", y.commit(), 7);
    }
}
