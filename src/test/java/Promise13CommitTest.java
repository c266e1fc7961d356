/** Promise 13, the boundary cases of commit. */
public final class Promise13CommitTest {
    public static void main(String[] args) {
        Cases.run(Promise13CommitTest.class);
    }

    /** Four blocks differ: the map, INODES 0 and 1, the root's and the file's. */
    private static JournaledFiles fourBlocks() {
        JournaledFiles x = new JournaledFiles();
        x.open(1, 3, true, false, false);
        x.write(0, 0x2A, 1);
        return x;
    }

    /** The same with a cut at the nth write, which comes. */
    private static JournaledFiles cutAt(int n) {
        JournaledFiles x = fourBlocks();
        x.cutPower(n);
        Check.refused("cut at " + n, x::commit);
        return x;
    }

    private static void dueNotDone(JournaledFiles x) {
        Check.due("COMMITTED is what it was", x.block(10, 0, true), 0);
        Check.due("THE STATE is that", x.block(10, 0, false), 0);
        Check.missing("no file", () -> x.stat(1, 0));
        Check.due("all blocks are free", x.count(0), 31);
    }

    private static void dueDone(JournaledFiles x) {
        Check.due("COMMITTED is what THE STATE was", x.block(10, 0, true), 0x2A);
        Check.due("THE STATE stays that", x.block(10, 0, false), 0x2A);
        Check.due("the file", x.stat(1, 1), 1);
        Check.due("blocks are used", x.count(0), 29);
    }

    static void promise13_nothingDiffersNothingIsWritten() {
        JournaledFiles x = new JournaledFiles();
        Check.due("a new object", x.commit(), 0);
        Check.due("writes", x.count(4), 0);
        JournaledFiles y = fourBlocks();
        y.commit();
        Check.due("the second time", y.commit(), 0);
        Check.due("writes", y.count(4), 9);
    }

    static void promise13_whatIsAsItWasAgainIsNotWritten() {
        JournaledFiles x = fourBlocks();
        x.commit();
        x.seek(0, 0);
        x.write(0, 0x2B, 1);
        Check.due("one differs", x.count(3), 1);
        x.seek(0, 0);
        x.write(0, 0x2A, 1);
        Check.due("none differs", x.count(3), 0);
        Check.due("nothing is written", x.commit(), 0);
    }

    static void promise13_theSameByteAgainIsNoDifference() {
        JournaledFiles x = fourBlocks();
        x.commit();
        x.seek(0, 0);
        x.write(0, 0x2A, 1);
        Check.due("nothing is written", x.commit(), 0);
    }

    static void promise13_oneBlockNeeds3Writes() {
        JournaledFiles x = fourBlocks();
        x.commit();
        x.seek(0, 0);
        x.write(0, 0x2B, 1);
        Check.due("1 + 1 + 1", x.commit(), 3);
        Check.due("in all", x.count(4), 12);
    }

    static void promise13_fourBlocksNeed9Writes() {
        JournaledFiles x = fourBlocks();
        Check.due("4 + 1 + 4", x.commit(), 9);
        Check.due("none differs", x.count(3), 0);
        Check.due("writes", x.count(4), 9);
    }

    /** Blocks 7 and 8 are 0 always, all others can differ. */
    static void promise13_theMost38BlocksNeed77Writes() {
        JournaledFiles x = allBlocksDiffer();
        Check.due("they differ", x.count(3), 38);
        Check.due("38 + 1 + 38", x.commit(), 77);
        Check.due("the last block", x.block(39, 15, true), 0xEE);
    }

    private static JournaledFiles allBlocksDiffer() {
        JournaledFiles x = new JournaledFiles();
        Given.files(x, 1, 10);
        for (int name = 1; name <= 8; name++) {
            x.open(name, 2, true, false, false);
            for (int end = 16; end <= (name < 8 ? 64 : 16); end += 16) {
                x.seek(0, end - 1);
                x.write(0, 0xEE, 1);
            }
            x.close(0);
        }
        return x;
    }

    static void promise13_aFreedBlockIsWrittenToo() {
        JournaledFiles x = fourBlocks();
        x.commit();
        x.truncate(1, 0);
        Check.due("the map, INODE 1, the freed block", x.commit(), 7);
        Check.due("it is 0", x.block(10, 0, true), 0);
    }

    static void promise13_handlesStayOpenWhereTheyStand() {
        JournaledFiles x = Given.openFile(8);
        x.read(0, 3);
        x.commit();
        Check.due("open", x.count(2), 1);
        Check.due("byte 3", x.read(0, 1), 4);
    }

    static void promise13_handlesAreNotWritten() {
        JournaledFiles x = fourBlocks();
        x.commit();
        x.open(0, 4, false, false, false);
        x.next(1);
        x.seek(0, 9);
        x.close(0);
        Check.due("nothing differs", x.commit(), 0);
    }

    static void promise13_committedBecomesTheState() {
        JournaledFiles x = fourBlocks();
        Check.due("not yet", x.block(10, 0, true), 0);
        x.commit();
        Check.due("now", x.block(10, 0, true), 0x2A);
        x.crash();
        Check.due("after starting anew", x.stat(1, 1), 1);
    }

    static void promise13_aCutAtTheFirstWriteLeavesCommitted() {
        JournaledFiles x = cutAt(1);
        dueNotDone(x);
        Check.due("writes", x.count(4), 0);
    }

    static void promise13_aCutAtTheLastBlockIntoTheJournalLeavesCommitted() {
        JournaledFiles x = cutAt(4);
        dueNotDone(x);
        Check.due("writes", x.count(4), 3);
    }

    static void promise13_aCutAtTheMarkLeavesCommitted() {
        JournaledFiles x = cutAt(5);
        dueNotDone(x);
        Check.due("writes", x.count(4), 4);
    }

    static void promise13_aCutBehindTheMarkIsMadeGoodByTheJournal() {
        JournaledFiles x = cutAt(6);
        dueDone(x);
        Check.due("writes", x.count(4), 5);
    }

    static void promise13_aCutAtTheLastWriteIsMadeGoodByTheJournal() {
        JournaledFiles x = cutAt(9);
        dueDone(x);
        Check.due("writes", x.count(4), 8);
    }

    static void promise13_aCutBehindTheLastWriteDoesNotCome() {
        JournaledFiles x = fourBlocks();
        x.cutPower(10);
        Check.due("all writes", x.commit(), 9);
        Check.due("power stayed on", x.count(5), 0);
        Check.due("the HANDLE is open", x.count(2), 1);
    }

    static void promise13_aCutOfOneBlockAtItsMarkAndBehindIt() {
        for (int n = 1; n <= 3; n++) {
            JournaledFiles x = fourBlocks();
            x.commit();
            x.seek(0, 0);
            x.write(0, 0x2B, 1);
            Check.due("one differs", x.count(3), 1);
            x.cutPower(n);
            Check.refused("cut at " + n, x::commit);
            Check.due("cut at " + n, x.block(10, 0, true), n <= 2 ? 0x2A : 0x2B);
        }
    }

    static void promise13_aCutPutsPowerOff() {
        for (int n : new int[] {1, 5, 6, 9}) {
            JournaledFiles x = cutAt(n);
            Check.due("times", x.count(5), 1);
            Check.due("none differs", x.count(3), 0);
            Check.due("nothing to write", x.commit(), 0);
        }
    }

    static void promise13_aCutClosesAllHandles() {
        for (int n : new int[] {1, 9}) {
            JournaledFiles x = fourBlocks();
            for (int handle = 1; handle < 6; handle++) {
                x.open(0, 4, false, false, false);
            }
            x.cutPower(n);
            Check.refused("cut", x::commit);
            Check.due("open", x.count(2), 0);
            Check.due("the least closed one", x.open(0, 4, false, false, false), 0);
        }
    }

    static void promise13_aCutThatCameIsSetNoMore() {
        JournaledFiles x = cutAt(9);
        for (int k = 0; k < 10; k++) {
            x.truncate(1, 1 + (k + 1) % 2);
            Check.fine("commit", x::commit);
        }
        Check.due("power was off once", x.count(5), 1);
    }

    static void promise13_afterACutTheSameCommitCanBeDone() {
        JournaledFiles x = cutAt(5);
        x.open(1, 3, true, false, false);
        x.write(0, 0x2A, 1);
        Check.due("writes", x.commit(), 9);
        Check.due("with those before", x.count(4), 13);
        dueDone(x);
    }

    static void promise13_aCutBringsBackTheGenerationsToo() {
        JournaledFiles x = fourBlocks();
        x.commit();
        x.remove(1);
        x.directory(1);
        x.cutPower(1);
        Check.refused("cut", x::commit);
        Check.due("KIND", x.stat(1, 0), 1);
        Check.due("GENERATION", x.stat(1, 3), 1);
    }
}
