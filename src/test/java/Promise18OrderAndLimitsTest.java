/** Promise 18, the boundary cases of order and limits. */
public final class Promise18OrderAndLimitsTest {
    public static void main(String[] args) {
        Cases.run(Promise18OrderAndLimitsTest.class);
    }

    /** The directories 1, 0102 and 010203, so that every PATH is bad for its digits alone. */
    private static JournaledFiles deep() {
        JournaledFiles x = new JournaledFiles();
        x.directory(1);
        x.directory(0x0102);
        x.directory(0x010203);
        return x;
    }

    private static void bad(JournaledFiles x, int path) {
        String text = Integer.toHexString(path);
        Check.bad("directory " + text, () -> x.directory(path));
        Check.bad("open " + text, () -> x.open(path, 4, false, false, false));
        Check.bad("remove " + text, () -> x.remove(path));
        Check.bad("rename from " + text, () -> x.rename(path, 9));
        Check.bad("rename to " + text, () -> x.rename(1, path));
        Check.bad("truncate " + text, () -> x.truncate(path, 0));
        Check.bad("stat " + text, () -> x.stat(path, 0));
    }

    static void promise18_00BehindOneNameIsBad() {
        bad(deep(), 0x0100);
    }

    static void promise18_00BehindTwoNamesIsBad() {
        bad(deep(), 0x010200);
    }

    static void promise18_00BehindThreeNamesIsBad() {
        bad(deep(), 0x01020300);
    }

    static void promise18_00TwiceBehindANameIsBad() {
        bad(deep(), 0x010000);
        bad(deep(), 0x01020000);
    }

    static void promise18_00ThriceBehindANameIsBad() {
        bad(deep(), 0x01000000);
        bad(deep(), Integer.MIN_VALUE);
    }

    static void promise18_00BehindANameOfFFIsBad() {
        bad(deep(), 0xFF00);
        bad(deep(), 0xFFFFFF00);
    }

    static void promise18_00AloneIsTheRoot() {
        Check.due("KIND", deep().stat(0, 0), 2);
        Check.due("INODE", deep().stat(0, 2), 0);
    }

    static void promise18_leadingZerosAreNoNames() {
        JournaledFiles x = deep();
        Check.due("00000001", x.stat(0x00000001, 2), 1);
        Check.due("00010203", x.stat(0x00010203, 2), 3);
    }

    static void promise18_aNameThatEndsWith0Is0IsFine() {
        JournaledFiles x = new JournaledFiles();
        Check.due("10", x.directory(0x10), 1);
        Check.due("1010", x.directory(0x1010), 2);
        Check.due("10F0", x.directory(0x10F0), 3);
    }

    static void promise18_replayingTheJournalIsNoWrite() {
        for (int n = 5; n <= 7; n++) {
            JournaledFiles x = new JournaledFiles();
            x.directory(1);
            x.cutPower(n);
            Check.refused("cut at " + n + " of 7", x::commit);
            Check.due("replayed", x.stat(1, 0), 2);
            Check.due("writes before the cut alone", x.count(4), n - 1);
        }
    }

    static void promise18_replayingTheJournalCountsForNoCut() {
        JournaledFiles x = new JournaledFiles();
        x.directory(1);
        x.cutPower(5);
        Check.refused("cut behind the mark", x::commit);
        x.cutPower(7);
        x.directory(2);
        Check.due("INODES 0 and 1, INODE 2, the root's block", x.count(3), 3);
        Check.refused("at the seventh write", x::commit);
        Check.due("writes", x.count(4), 4 + 6);
        Check.due("replayed", x.stat(2, 0), 2);
    }

    static void promise18_theOrderIsBadMissingRefusedFull() {
        JournaledFiles x = Given.noFreeInode();
        Given.useAllHandles(x);
        Check.bad("directory", () -> x.directory(0x0100));
        Check.missing("directory", () -> x.directory(0x2001));
        Check.refused("directory", () -> x.directory(1));
        Check.full("directory", () -> x.directory(0x20));
        Check.bad("open", () -> x.open(1, 5, true, true, true));
        Check.missing("open", () -> x.open(0x2001, 2, true, true, true));
        Check.refused("open", () -> x.open(1, 2, true, true, true));
        Check.full("open", () -> x.open(1, 4, true, true, true));
    }

    /** The 512th call of an object is still answered. */
    static void promise18_the512thCallIsAnswered() {
        JournaledFiles x = new JournaledFiles();
        for (int k = 1; k <= 254; k++) {
            x.directory(1);
            x.remove(1);
        }
        x.directory(1);
        x.directory(2);
        x.commit();
        Check.due("the 512th", x.stat(1, 3), 255);
    }
}
