/** Promises 13, 14, 15 and 18: commit, cutPower, crash, and that replaying the journal is no write. */
public final class PowerTest {
    public static void main(String[] args) {
        committing();
        committingTheSameAgain();
        cutAtEveryWrite();
        cutCountsOn();
        cutByALaterCommit();
        cutIsReplaced();
        cutRanges();
        cutComesOnce();
        crashing();
        crashKeepsTheCut();
        generationsGoBack();
        Check.end();
    }

    /** Five blocks differ: the map, inodes 0 and 1, the root's block, the file's two. */
    private static JournaledFiles withFiveBlocks() {
        JournaledFiles x = new JournaledFiles();
        x.open(1, 3, true, false, false);
        x.seek(0, 16);
        x.write(0, 0x2A, 1);
        x.seek(0, 0);
        x.write(0, 0x2B, 1);
        return x;
    }

    private static void committing() {
        JournaledFiles x = withFiveBlocks();
        Check.due("they differ", x.count(3), 5);
        Check.due("5 + 1 + 5 writes", x.commit(), 11);
        Check.due("none differ", x.count(3), 0);
        Check.due("writes", x.count(4), 11);
        Check.due("nothing to write", x.commit(), 0);
        Check.due("handles stay open", x.count(2), 1);
        Check.due("power was on", x.count(5), 0);
        x.write(0, 0x2C, 1);
        Check.due("one block differs", x.commit(), 3);
        Check.due("writes in all", x.count(4), 14);
        x.crash();
        Check.due("it's there after a crash", x.stat(1, 1), 17);
    }

    private static void committingTheSameAgain() {
        JournaledFiles x = withFiveBlocks();
        x.commit();
        x.truncate(1, 20);
        Check.due("one differs", x.count(3), 1);
        x.truncate(1, 17);
        Check.due("none differs", x.count(3), 0);
        Check.due("nothing is written", x.commit(), 0);
        x.write(0, 0, 0);
        x.seek(0, 9);
        x.close(0);
        Check.due("handles are not on the disk", x.commit(), 0);
    }

    private static void cutAtEveryWrite() {
        for (int n = 1; n <= 12; n++) {
            JournaledFiles x = withFiveBlocks();
            x.cutPower(n);
            if (n == 12) {
                Check.due("behind the last write", x.commit(), 11);
                Check.due("power stays on", x.count(5), 0);
                Check.due("handle stays open", x.count(2), 1);
                continue;
            }
            String at = "cut at " + n;
            Check.refused(at, x::commit);
            Check.due(at + ": writes done", x.count(4), n - 1);
            Check.due(at + ": power was off", x.count(5), 1);
            Check.due(at + ": handles are closed", x.count(2), 0);
            Check.due(at + ": none differ", x.count(3), 0);
            Check.due(at + ": entries", x.stat(0, 4), n <= 6 ? 0 : 1);
            Check.due(at + ": STATE", x.block(11, 0, false), n <= 6 ? 0 : 0x2A);
            Check.due(at + ": COMMITTED", x.block(11, 0, true), n <= 6 ? 0 : 0x2A);
            Check.due(at + ": free blocks", x.count(0), n <= 6 ? 31 : 28);
            Check.due(at + ": least closed handle", x.open(0, 4, false, false, false), 0);
        }
    }

    private static void cutCountsOn() {
        JournaledFiles x = withFiveBlocks();
        x.cutPower(13);
        Check.due("eleven writes", x.commit(), 11);
        Check.due("no writes", x.commit(), 0);
        x.write(0, 0x2C, 1);
        Check.refused("the second of three", x::commit);
        Check.due("writes", x.count(4), 12);
        Check.due("only the first commit is there", x.block(10, 1, true), 0);
    }

    private static void cutByALaterCommit() {
        JournaledFiles x = withFiveBlocks();
        x.cutPower(14);
        x.commit();
        x.write(0, 0x2C, 1);
        Check.refused("the third of three", x::commit);
        Check.due("writes", x.count(4), 13);
        Check.due("the journal was whole", x.block(10, 1, true), 0x2C);
    }

    private static void cutIsReplaced() {
        JournaledFiles x = withFiveBlocks();
        x.cutPower(1);
        x.cutPower(100);
        Check.due("the later one holds", x.commit(), 11);
        x.cutPower(1);
        x.cutPower(0);
        x.write(0, 0x2C, 1);
        Check.due("none is set", x.commit(), 3);
        x.write(0, 0x2D, 1);
        x.cutPower(2);
        Check.bad("a bad one", () -> x.cutPower(101));
        Check.refused("does not replace one", x::commit);
        Check.due("writes", x.count(4), 15);
    }

    private static void cutRanges() {
        JournaledFiles x = new JournaledFiles();
        for (int n : new int[] {-1, 101, Integer.MIN_VALUE, Integer.MAX_VALUE}) {
            Check.bad("cutPower(" + n + ")", () -> x.cutPower(n));
        }
        Check.fine("100", () -> x.cutPower(100));
        x.open(1, 3, true, false, false);
        x.commit();
        for (int k = 1; k <= 15; k++) {
            x.truncate(1, k % 2);
            x.commit();
        }
        Check.due("writes: for 3 blocks, then for 2 each time", x.count(4), 7 + 15 * 5);
        x.truncate(1, 0);
        x.commit();
        x.truncate(1, 1);
        x.commit();
        Check.due("writes", x.count(4), 92);
        x.seek(0, 0);
        x.write(0, 1, 1);
        Check.due("writes 93 to 95", x.commit(), 3);
        x.write(0, 1, 1);
        Check.due("two blocks differ", x.count(3), 2);
        Check.refused("the 100th write is the last one of this commit", x::commit);
        Check.due("99 were done", x.count(4), 99);
        Check.due("its journal was whole", x.stat(1, 1), 2);
    }

    private static void cutComesOnce() {
        JournaledFiles x = withFiveBlocks();
        x.cutPower(1);
        Check.refused("it comes", x::commit);
        Check.due("nothing differs", x.commit(), 0);
        x.directory(1);
        Check.due("it comes no more", x.commit(), 7);
        Check.due("power was off once", x.count(5), 1);
        x.cutPower(1);
        Check.due("without writes it does not come", x.commit(), 0);
        x.directory(2);
        Check.refused("but then", x::commit);
        Check.due("power was off twice", x.count(5), 2);
    }

    private static void crashing() {
        JournaledFiles x = withFiveBlocks();
        x.commit();
        x.open(0, 4, false, false, false);
        x.remove(1);
        x.directory(2);
        x.crash();
        Check.due("the file is back", x.stat(1, 1), 17);
        Check.missing("the directory is gone", () -> x.stat(2, 0));
        Check.due("bytes", x.block(10, 0, false), 0x2B);
        Check.due("handles are closed", x.count(2), 0);
        Check.refused("really", () -> x.close(0));
        Check.refused("really", () -> x.next(1));
        Check.due("nothing was written", x.count(4), 11);
        Check.due("none differ", x.count(3), 0);
        x.crash();
        Check.due("power was off twice", x.count(5), 2);
    }

    private static void crashKeepsTheCut() {
        JournaledFiles x = withFiveBlocks();
        x.cutPower(3);
        x.crash();
        x.directory(1);
        Check.refused("the cut was still set", x::commit);
        Check.due("and came at the third write", x.count(4), 2);
        Check.due("off twice", x.count(5), 2);
    }

    private static void generationsGoBack() {
        JournaledFiles x = new JournaledFiles();
        x.directory(1);
        x.commit();
        x.remove(1);
        x.directory(1);
        Check.due("the second one", x.stat(1, 3), 2);
        x.crash();
        Check.due("the first one again", x.stat(1, 3), 1);
        x.remove(1);
        Check.due("a freed inode's generation is committed", x.commit(), 7);
        x.crash();
        x.directory(1);
        Check.due("the second one", x.stat(1, 3), 2);
    }
}
