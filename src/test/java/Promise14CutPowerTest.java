/** Promise 14, the boundary cases of cutPower. */
public final class Promise14CutPowerTest {
    public static void main(String[] args) {
        Cases.run(Promise14CutPowerTest.class);
    }

    /** All is committed; each call of change makes one block differ, that is three writes. */
    private static JournaledFiles committed() {
        JournaledFiles x = Given.openFile(1);
        x.commit();
        return x;
    }

    private static void change(JournaledFiles x) {
        x.seek(0, 0);
        int byteNow = (int) x.read(0, 1);
        x.seek(0, 0);
        x.write(0, byteNow + 1, 1);
    }

    static void promise14_below0IsBad() {
        JournaledFiles x = new JournaledFiles();
        Check.bad("-1", () -> x.cutPower(-1));
        Check.bad("the least int", () -> x.cutPower(Integer.MIN_VALUE));
    }

    static void promise14_above100IsBad() {
        JournaledFiles x = new JournaledFiles();
        Check.bad("101", () -> x.cutPower(101));
        Check.bad("the greatest int", () -> x.cutPower(Integer.MAX_VALUE));
    }

    static void promise14_aBadOneLeavesTheOneSetBefore() {
        JournaledFiles x = committed();
        x.cutPower(2);
        Check.bad("101", () -> x.cutPower(101));
        Check.bad("-1", () -> x.cutPower(-1));
        change(x);
        Check.refused("cut at the second write", x::commit);
        Check.due("writes", x.count(4), 10);
    }

    static void promise14_aBadOneSetsNone() {
        JournaledFiles x = committed();
        Check.bad("101", () -> x.cutPower(101));
        for (int k = 0; k < 35; k++) {
            change(x);
            Check.fine("commit", x::commit);
        }
    }

    static void promise14_0MeansNone() {
        JournaledFiles x = committed();
        x.cutPower(0);
        change(x);
        Check.due("commit", x.commit(), 3);
    }

    static void promise14_0TakesTheOneSetBeforeAway() {
        JournaledFiles x = committed();
        x.cutPower(1);
        x.cutPower(0);
        change(x);
        Check.due("commit", x.commit(), 3);
        Check.due("power stayed on", x.count(5), 0);
    }

    static void promise14_1MeansTheNextWrite() {
        JournaledFiles x = committed();
        x.cutPower(1);
        change(x);
        Check.refused("commit", x::commit);
        Check.due("writes", x.count(4), 9);
    }

    static void promise14_100MeansThe100thWrite() {
        JournaledFiles x = committed();
        x.cutPower(100);
        for (int k = 0; k < 33; k++) {
            change(x);
            Check.due("commit", x.commit(), 3);
        }
        Check.due("99 writes, and 9 before", x.count(4), 108);
        change(x);
        Check.refused("the 100th", x::commit);
        Check.due("it isn't done", x.count(4), 108);
    }

    static void promise14_aLaterOneTakesThePlaceOfAnEarlierOne() {
        JournaledFiles x = committed();
        x.cutPower(1);
        x.cutPower(5);
        change(x);
        Check.due("not at the first", x.commit(), 3);
        change(x);
        Check.refused("at the fifth", x::commit);
        Check.due("writes", x.count(4), 13);
    }

    static void promise14_anEarlierOneTakesThePlaceOfALaterOne() {
        JournaledFiles x = committed();
        x.cutPower(5);
        x.cutPower(2);
        change(x);
        Check.refused("at the second", x::commit);
        for (int k = 0; k < 5; k++) {
            x.truncate(1, 2 - k % 2);
            Check.fine("and not at the fifth", x::commit);
        }
    }

    static void promise14_itCountsFromNow() {
        JournaledFiles x = committed();
        change(x);
        x.cutPower(4);
        x.commit();
        x.cutPower(4);
        change(x);
        Check.due("writes 1 to 3 from then on", x.commit(), 3);
        change(x);
        Check.refused("write 4", x::commit);
    }

    static void promise14_oneThatDidNotComeCountsOn() {
        JournaledFiles x = committed();
        x.cutPower(8);
        change(x);
        Check.due("writes 1 to 3", x.commit(), 3);
        change(x);
        Check.due("writes 4 to 6", x.commit(), 3);
        change(x);
        Check.refused("write 8", x::commit);
        Check.due("write 7 was done", x.count(4), 16);
    }

    static void promise14_oneThatDidNotComeByOneComesAtTheNextWrite() {
        JournaledFiles x = committed();
        x.cutPower(4);
        change(x);
        Check.due("writes 1 to 3", x.commit(), 3);
        change(x);
        Check.refused("write 4", x::commit);
        Check.due("none was done", x.count(4), 12);
    }

    static void promise14_aCommitWithoutWritesDoesNotCount() {
        JournaledFiles x = committed();
        x.cutPower(1);
        Check.due("nothing differs", x.commit(), 0);
        Check.due("nothing differs", x.commit(), 0);
        Check.due("power stayed on", x.count(5), 0);
        change(x);
        Check.refused("write 1", x::commit);
    }

    static void promise14_otherCallsDoNotCount() {
        JournaledFiles x = committed();
        x.cutPower(3);
        x.directory(2);
        x.rename(2, 3);
        x.remove(3);
        x.truncate(1, 64);
        x.truncate(1, 1);
        change(x);
        Check.due("one more block for the GENERATION of INODE 2", x.count(3), 2);
        Check.refused("write 3", x::commit);
        Check.due("two were done", x.count(4), 11);
    }

    static void promise14_aCutLeftByACrashCountsOn() {
        JournaledFiles x = committed();
        x.cutPower(5);
        change(x);
        x.commit();
        x.crash();
        x.open(1, 3, false, false, false);
        change(x);
        Check.refused("write 5", x::commit);
        Check.due("write 4 was done", x.count(4), 13);
    }

    static void promise14_afterACutANewOneCanBeSet() {
        JournaledFiles x = committed();
        for (int k = 1; k <= 3; k++) {
            x.cutPower(k);
            x.truncate(1, 2);
            Check.refused("cut at " + k, x::commit);
            Check.due("power was off", x.count(5), k);
        }
        Check.due("SIZE: behind the mark at last", x.stat(1, 1), 2);
    }

    static void promise14_whatThrowsHasChangedNothing() {
        Check.changesNothing("Bad", "Bad", x -> {
            x.open(1, 3, true, false, false);
            x.write(0, 0x0807060504030201L, 8);
            x.cutPower(30);
        }, x -> x.cutPower(101));
        Check.changesNothing("Bad", "Bad", x -> {
            x.open(1, 3, true, false, false);
            x.cutPower(30);
        }, x -> x.cutPower(-1));
    }
}
