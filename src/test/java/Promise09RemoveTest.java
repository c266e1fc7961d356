/** Promise 9, the boundary cases of remove. */
public final class Promise09RemoveTest {
    public static void main(String[] args) {
        Cases.run(Promise09RemoveTest.class);
    }

    static void promise09_aPathThatIsNoneIsBad() {
        JournaledFiles x = new JournaledFiles();
        x.directory(1);
        for (int path : Given.NO_PATHS) {
            Check.bad(Integer.toHexString(path), () -> x.remove(path));
        }
    }

    static void promise09_theEmptyRootIsRefused() {
        JournaledFiles x = new JournaledFiles();
        Check.refused("the root", () -> x.remove(0));
    }

    static void promise09_theRootWithEntriesIsRefused() {
        JournaledFiles x = Given.openFile();
        Check.refused("the root", () -> x.remove(0));
    }

    static void promise09_whereNothingIsItIsMissing() {
        JournaledFiles x = new JournaledFiles();
        Check.missing("one NAME", () -> x.remove(1));
        Check.missing("below nothing", () -> x.remove(0x0102));
        x.directory(1);
        Check.missing("in an empty directory", () -> x.remove(0x0102));
    }

    static void promise09_belowAFileItIsMissing() {
        JournaledFiles x = Given.openFile(8);
        Check.missing("below a file", () -> x.remove(0x0101));
    }

    static void promise09_twiceIsMissing() {
        JournaledFiles x = Given.openFile();
        x.remove(1);
        Check.missing("the second time", () -> x.remove(1));
    }

    static void promise09_aDirectoryWithOneEntryIsRefused() {
        JournaledFiles x = new JournaledFiles();
        x.directory(1);
        x.directory(0x0102);
        Check.refused("one ENTRY", () -> x.remove(1));
        x.remove(0x0102);
        Check.fine("none", () -> x.remove(1));
    }

    static void promise09_aDirectoryThatNeverHadEntriesGoes() {
        JournaledFiles x = new JournaledFiles();
        x.directory(1);
        Check.fine("none", () -> x.remove(1));
        Check.missing("it's gone", () -> x.stat(1, 0));
        Check.due("INODE 1", Given.inode(x, 1), "0000000100000000");
    }

    static void promise09_aDirectoryWhoseEntriesWereRenamedAwayGoes() {
        JournaledFiles x = new JournaledFiles();
        x.directory(1);
        x.directory(0x0102);
        x.rename(0x0102, 2);
        Check.fine("none is left", () -> x.remove(1));
    }

    static void promise09_anEmptyFileGoes() {
        JournaledFiles x = Given.openFile();
        x.remove(1);
        Check.missing("it's gone", () -> x.stat(1, 0));
        Check.due("INODE 1", Given.inode(x, 1), "0000000100000000");
        Check.due("free blocks", x.count(0), 31);
    }

    static void promise09_aFileOf64BytesFreesFourBlocks() {
        JournaledFiles x = Given.openFile(64);
        Given.file(x, 2, 0);
        x.remove(1);
        Check.due("INODE 1", Given.inode(x, 1), "0000000100000000");
        Check.due("free blocks", x.count(0), 30);
        Check.due("the map", Check.blocks(x, 0, 0), "ff030000000000000000000000000000");
        Check.due("all are 0", Check.blocks(x, 10, 13),
                Given.ZEROS + " " + Given.ZEROS + " " + Given.ZEROS + " " + Given.ZEROS);
    }

    static void promise09_theOnlyEntryLeavesAnEmptyDirectory() {
        JournaledFiles x = Given.openFile();
        x.remove(1);
        Check.due("the root", Given.inode(x, 0), "0200010100000000");
        Check.due("its block is 0", Check.blocks(x, 9, 9), Given.ZEROS);
        Check.due("and free", x.count(0), 31);
    }

    static void promise09_theFirstEntrysPlaceIsTakenByTheLast() {
        JournaledFiles x = new JournaledFiles();
        Given.files(x, 1, 4);
        x.remove(1);
        Check.due("entries", Check.blocks(x, 9, 9), "04040202030300000000000000000000");
    }

    static void promise09_aMiddleEntrysPlaceIsTakenByTheLast() {
        JournaledFiles x = new JournaledFiles();
        Given.files(x, 1, 4);
        x.remove(2);
        Check.due("entries", Check.blocks(x, 9, 9), "01010404030300000000000000000000");
    }

    static void promise09_theLastEntryJustGoes() {
        JournaledFiles x = new JournaledFiles();
        Given.files(x, 1, 4);
        x.remove(4);
        Check.due("entries", Check.blocks(x, 9, 9), "01010202030300000000000000000000");
        Check.due("SIZE", x.stat(0, 1), 6);
    }

    static void promise09_theLastButOneEntrysPlaceIsTakenByTheLast() {
        JournaledFiles x = new JournaledFiles();
        Given.files(x, 1, 4);
        x.remove(3);
        Check.due("entries", Check.blocks(x, 9, 9), "01010202040400000000000000000000");
    }

    static void promise09_fromNineEntriesToEightFreesTheSecondBlock() {
        JournaledFiles x = new JournaledFiles();
        Given.files(x, 1, 9);
        Check.due("two blocks", Given.inode(x, 0), "02120101090a0000");
        x.remove(2);
        Check.due("one block", Given.inode(x, 0), "0210010109000000");
        Check.due("entries", Check.blocks(x, 9, 10), "01010909030304040505060607070808 " + Given.ZEROS);
        Check.due("free blocks", x.count(0), 30);
    }

    static void promise09_fromTenEntriesToNineKeepsTheSecondBlock() {
        JournaledFiles x = new JournaledFiles();
        Given.files(x, 1, 10);
        x.remove(2);
        Check.due("two blocks", Given.inode(x, 0), "02120101090a0000");
        Check.due("entries", Check.blocks(x, 9, 10),
                "01010a0a030304040505060607070808 09090000000000000000000000000000");
    }

    static void promise09_theGenerationIsKept() {
        JournaledFiles x = Given.openFile();
        x.remove(1);
        x.directory(1);
        x.remove(1);
        Check.due("INODE 1", Given.inode(x, 1), "0000000200000000");
    }

    static void promise09_anOpenFileGoesAndItsHandlesAreStale() {
        JournaledFiles x = Given.openFile(8);
        x.open(1, 1, false, false, false);
        x.open(0, 4, false, false, false);
        Check.fine("it's open", () -> x.remove(1));
        Check.due("STALE", x.count(6), 2);
        Check.due("open", x.count(2), 3);
    }

    static void promise09_aListedDirectoryGoesAndItsHandleIsStale() {
        JournaledFiles x = new JournaledFiles();
        x.directory(1);
        x.open(1, 4, false, false, false);
        Check.fine("it's open", () -> x.remove(1));
        Check.due("STALE", x.count(6), 1);
    }

    static void promise09_onAFullDiskItIsFine() {
        JournaledFiles x = Given.fullDisk();
        Check.fine("64 bytes", () -> x.remove(1));
        Check.due("free blocks", x.count(0), 4);
        Check.fine("the freed ones serve", () -> x.truncate(8, 64));
    }

    static void promise09_whatIsRemovedIsThereAfterACrash() {
        JournaledFiles x = Given.openFile(8);
        x.commit();
        x.remove(1);
        Check.due("still COMMITTED", x.block(10, 7, true), 8);
        x.crash();
        Check.due("SIZE", x.stat(1, 1), 8);
    }

    static void promise09_missingComesBeforeRefused() {
        JournaledFiles x = new JournaledFiles();
        x.directory(1);
        x.directory(0x0102);
        Check.missing("nothing", () -> x.remove(2));
        Check.missing("below a directory with ENTRIES", () -> x.remove(0x0103));
    }

    static void promise09_whatThrowsHasChangedNothing() {
        Trace.History history = x -> {
            x.directory(1);
            x.open(0x0102, 3, true, false, false);
            x.write(0, 0x0807060504030201L, 8);
            x.open(1, 4, false, false, false);
            x.seek(0, 2);
        };
        Check.changesNothing("Bad", "Bad", history, x -> x.remove(0x010200));
        Check.changesNothing("Missing", "Missing", history, x -> x.remove(0x0103));
        Check.changesNothing("Refused", "Refused", history, x -> x.remove(1));
        Check.changesNothing("the root", "Refused", history, x -> x.remove(0));
    }
}
