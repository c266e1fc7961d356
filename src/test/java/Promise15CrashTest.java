/** Promise 15, the boundary cases of crash. */
public final class Promise15CrashTest {
    public static void main(String[] args) {
        Cases.run(Promise15CrashTest.class);
    }

    static void promise15_ofANewObjectLeavesANewOne() {
        JournaledFiles x = new JournaledFiles();
        x.crash();
        int[] counts = {31, 11, 0, 0, 0, 1, 0};
        for (int what = 0; what <= 6; what++) {
            Check.due("count " + what, x.count(what), counts[what]);
        }
        Check.due("the root", Given.inode(x, 0), "0200010100000000");
    }

    static void promise15_whatIsNotCommittedIsLost() {
        JournaledFiles x = Given.openFile(64);
        x.directory(2);
        x.crash();
        Check.due("ENTRIES", x.stat(0, 4), 0);
        Check.due("free blocks", x.count(0), 31);
        Check.due("free INODES", x.count(1), 11);
        Check.due("bytes", Check.blocks(x, 9, 10), Given.ZEROS + " " + Given.ZEROS);
        Check.due("INODE 1, its GENERATION too", Given.inode(x, 1), "0000000000000000");
    }

    static void promise15_whatIsCommittedStays() {
        JournaledFiles x = Given.openFile(3);
        x.commit();
        x.truncate(1, 0);
        x.remove(1);
        x.crash();
        Check.due("SIZE", x.stat(1, 1), 3);
        Check.due("bytes", Check.blocks(x, 10, 10), "01020300000000000000000000000000");
    }

    static void promise15_committedIsAsItWas() {
        JournaledFiles x = Given.openFile(3);
        x.commit();
        x.truncate(1, 1);
        x.crash();
        Check.due("byte 2", x.block(10, 2, true), 3);
        Check.due("none differs", x.count(3), 0);
    }

    static void promise15_nothingIsWritten() {
        JournaledFiles x = Given.openFile(3);
        x.crash();
        Check.due("writes", x.count(4), 0);
        Check.due("nothing to commit", x.commit(), 0);
    }

    static void promise15_allHandlesAreClosed() {
        JournaledFiles x = Given.openFile(3);
        x.commit();
        for (int handle = 1; handle < 6; handle++) {
            x.open(0, 4, false, false, false);
        }
        x.crash();
        Check.due("open", x.count(2), 0);
        for (int handle = 0; handle < 6; handle++) {
            int h = handle;
            Check.refused("HANDLE " + h, () -> x.close(h));
        }
        Check.due("the least closed one", x.open(1, 1, false, false, false), 0);
        Check.due("at 0", x.read(0, 1), 1);
    }

    static void promise15_staleHandlesAreClosedToo() {
        JournaledFiles x = Given.openFile(3);
        x.remove(1);
        x.crash();
        Check.due("open", x.count(2), 0);
        Check.due("STALE", x.count(6), 0);
    }

    static void promise15_aCutThatIsSetStaysSet() {
        JournaledFiles x = new JournaledFiles();
        x.cutPower(3);
        x.crash();
        x.crash();
        x.directory(1);
        Check.refused("commit", x::commit);
        Check.due("at the third write", x.count(4), 2);
        Check.due("power was off", x.count(5), 3);
    }

    static void promise15_noCutStaysNone() {
        JournaledFiles x = new JournaledFiles();
        x.crash();
        x.directory(1);
        Check.due("commit", x.commit(), 7);
    }

    static void promise15_twiceIsTwoTimes() {
        JournaledFiles x = Given.openFile(3);
        x.commit();
        x.crash();
        x.crash();
        Check.due("times", x.count(5), 2);
        Check.due("SIZE", x.stat(1, 1), 3);
    }

    static void promise15_theNewInodesGenerationComesAgain() {
        JournaledFiles x = new JournaledFiles();
        x.directory(1);
        x.crash();
        x.directory(1);
        Check.due("GENERATION", x.stat(1, 3), 1);
    }
}
