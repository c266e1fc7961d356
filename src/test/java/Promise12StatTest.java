/** Promise 12, the boundary cases of stat. */
public final class Promise12StatTest {
    public static void main(String[] args) {
        Cases.run(Promise12StatTest.class);
    }

    static void promise12_aPathThatIsNoneIsBad() {
        JournaledFiles x = Given.openFile();
        for (int path : Given.NO_PATHS) {
            Check.bad(Integer.toHexString(path), () -> x.stat(path, 0));
        }
    }

    static void promise12_aWhatBelow0IsBad() {
        JournaledFiles x = Given.openFile();
        Check.bad("-1", () -> x.stat(1, -1));
        Check.bad("the least int", () -> x.stat(0, Integer.MIN_VALUE));
    }

    static void promise12_aWhatAbove4IsBad() {
        JournaledFiles x = Given.openFile();
        Check.bad("5", () -> x.stat(1, 5));
        Check.bad("the greatest int", () -> x.stat(0, Integer.MAX_VALUE));
    }

    static void promise12_badComesBeforeMissing() {
        JournaledFiles x = new JournaledFiles();
        Check.bad("5", () -> x.stat(1, 5));
        Check.bad("-1", () -> x.stat(0x0102, -1));
    }

    static void promise12_whereNothingIsItIsMissing() {
        JournaledFiles x = Given.openFile();
        for (int what = 0; what <= 4; what++) {
            int w = what;
            Check.missing("nothing", () -> x.stat(2, w));
            Check.missing("below nothing", () -> x.stat(0x0201, w));
        }
    }

    static void promise12_belowAFileItIsMissing() {
        JournaledFiles x = Given.openFile(64);
        Check.missing("one level", () -> x.stat(0x0101, 0));
        Check.missing("three levels", () -> x.stat(0x01010101, 0));
    }

    /** Its bytes 0 and 1 would be an ENTRY of the NAME 1, if it were a directory. */
    static void promise12_aFilesBytesAreNoEntries() {
        JournaledFiles x = Given.openFile();
        x.write(0, 0x0001, 2);
        Check.missing("NAME 1, INODE 0", () -> x.stat(0x0101, 0));
        Check.due("ENTRIES", x.stat(1, 4), 0);
    }

    static void promise12_theRootAtPath0() {
        JournaledFiles x = new JournaledFiles();
        int[] root = {2, 0, 0, 1, 0};
        for (int what = 0; what <= 4; what++) {
            Check.due("what " + what, x.stat(0, what), root[what]);
        }
    }

    static void promise12_anEmptyFile() {
        JournaledFiles x = Given.openFile();
        int[] file = {1, 0, 1, 1, 0};
        for (int what = 0; what <= 4; what++) {
            Check.due("what " + what, x.stat(1, what), file[what]);
        }
    }

    static void promise12_aFileOf64Bytes() {
        JournaledFiles x = Given.openFile(64);
        int[] file = {1, 64, 1, 1, 0};
        for (int what = 0; what <= 4; what++) {
            Check.due("what " + what, x.stat(1, what), file[what]);
        }
    }

    static void promise12_anEmptyDirectory() {
        JournaledFiles x = new JournaledFiles();
        x.directory(1);
        int[] directory = {2, 0, 1, 1, 0};
        for (int what = 0; what <= 4; what++) {
            Check.due("what " + what, x.stat(1, what), directory[what]);
        }
    }

    static void promise12_aDirectoryOfTenEntries() {
        JournaledFiles x = new JournaledFiles();
        x.directory(1);
        for (int name = 1; name <= 10; name++) {
            x.directory(0x0100 | name);
        }
        int[] directory = {2, 20, 1, 1, 10};
        for (int what = 0; what <= 4; what++) {
            Check.due("what " + what, x.stat(1, what), directory[what]);
        }
    }

    static void promise12_theLastInode() {
        JournaledFiles x = Given.noFreeInode();
        Check.due("INODE", x.stat(11, 2), 11);
        Check.due("GENERATION", x.stat(11, 3), 1);
    }

    static void promise12_aPathOfFourNames() {
        JournaledFiles x = new JournaledFiles();
        x.directory(0xFF);
        x.directory(0xFFFF);
        x.directory(0xFFFFFF);
        Given.file(x, -1, 7);
        Check.due("SIZE", x.stat(-1, 1), 7);
        Check.missing("another last NAME", () -> x.stat(-2, 1));
    }

    static void promise12_itTellsTheStateNotWhatIsCommitted() {
        JournaledFiles x = Given.openFile();
        x.commit();
        x.write(0, 1, 1);
        Check.due("SIZE", x.stat(1, 1), 1);
    }

    static void promise12_whatThrowsHasChangedNothing() {
        Trace.History history = x -> {
            x.open(1, 3, true, false, false);
            x.write(0, 0x0807060504030201L, 8);
        };
        Check.changesNothing("Bad", "Bad", history, x -> x.stat(1, 5));
        Check.changesNothing("Missing", "Missing", history, x -> x.stat(2, 0));
    }
}
