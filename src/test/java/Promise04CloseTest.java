/** Promise 4, the boundary cases of close. */
public final class Promise04CloseTest {
    public static void main(String[] args) {
        Cases.run(Promise04CloseTest.class);
    }

    static void promise04_aHandleBelow0IsBad() {
        JournaledFiles x = new JournaledFiles();
        Check.bad("-1", () -> x.close(-1));
        Check.bad("the least int", () -> x.close(Integer.MIN_VALUE));
    }

    static void promise04_aHandleAbove5IsBad() {
        JournaledFiles x = new JournaledFiles();
        Check.bad("6", () -> x.close(6));
        Check.bad("the greatest int", () -> x.close(Integer.MAX_VALUE));
    }

    static void promise04_handles0And5CanBeClosed() {
        JournaledFiles x = new JournaledFiles();
        Given.useAllHandles(x);
        Check.fine("0", () -> x.close(0));
        Check.fine("5", () -> x.close(5));
        Check.due("four are open", x.count(2), 4);
    }

    static void promise04_oneThatNeverWasOpenIsRefused() {
        JournaledFiles x = Given.openFile();
        for (int handle = 1; handle < 6; handle++) {
            int h = handle;
            Check.refused("HANDLE " + h, () -> x.close(h));
        }
    }

    static void promise04_oneThatIsClosedIsRefused() {
        JournaledFiles x = Given.openFile();
        x.close(0);
        Check.refused("closed twice", () -> x.close(0));
    }

    static void promise04_aStaleOneCanBeClosed() {
        JournaledFiles x = Given.openFile();
        x.remove(1);
        Check.fine("STALE", () -> x.close(0));
        Check.due("none is open", x.count(2), 0);
        Check.due("none is STALE", x.count(6), 0);
    }

    static void promise04_afterPowerWentOffItIsRefused() {
        JournaledFiles x = Given.openFile();
        x.commit();
        x.crash();
        Check.refused("closed by that", () -> x.close(0));
    }

    static void promise04_aClosedOneIsOfNoUse() {
        JournaledFiles x = Given.openFile();
        x.close(0);
        Check.refused("write", () -> x.write(0, 1, 1));
        Check.refused("read", () -> x.read(0, 1));
        Check.refused("seek", () -> x.seek(0, 0));
        x.open(0, 4, false, false, false);
        x.close(0);
        Check.refused("next", () -> x.next(0));
    }

    static void promise04_theOthersStayAsTheyAre() {
        JournaledFiles x = Given.openFile(5);
        x.open(1, 1, false, false, false);
        x.read(1, 2);
        x.close(0);
        Check.due("one is open", x.count(2), 1);
        Check.due("where it stood", x.read(1, 1), 3);
    }

    static void promise04_closingWritesNothing() {
        JournaledFiles x = Given.openFile(5);
        x.close(0);
        Check.due("no writes", x.count(4), 0);
        x.crash();
        Check.missing("not COMMITTED", () -> x.stat(1, 0));
    }

    static void promise04_whatThrowsHasChangedNothing() {
        Trace.History history = x -> {
            x.open(1, 3, true, false, false);
            x.write(0, 0x030201, 3);
            x.open(1, 1, false, false, false);
            x.close(0);
        };
        Check.changesNothing("Bad", "Bad", history, x -> x.close(6));
        Check.changesNothing("Refused", "Refused", history, x -> x.close(0));
    }
}
