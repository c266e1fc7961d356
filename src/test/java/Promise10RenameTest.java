/** Promise 10, the boundary cases of rename. */
public final class Promise10RenameTest {
    public static void main(String[] args) {
        Cases.run(Promise10RenameTest.class);
    }

    /** The directory 1 with the directory 2 in it, the file 3, and the directory 4. */
    private static JournaledFiles tree() {
        JournaledFiles x = new JournaledFiles();
        plant(x);
        return x;
    }

    private static void plant(JournaledFiles x) {
        x.directory(1);
        x.directory(0x0102);
        Given.file(x, 3, 8);
        x.directory(4);
    }

    /** The root's block has no place left, no block is free, and of the two files in 9 one can go without freeing one. */
    private static JournaledFiles fullRootAndDisk() {
        JournaledFiles x = new JournaledFiles();
        fillRootAndDisk(x);
        return x;
    }

    private static void fillRootAndDisk(JournaledFiles x) {
        x.directory(9);
        Given.file(x, 0x0901, 64);
        Given.file(x, 0x0902, 0);
        for (int name = 1; name <= 6; name++) {
            Given.file(x, name, 64);
        }
        Given.file(x, 7, 16);
    }

    static void promise10_aFromThatIsNoPathIsBad() {
        JournaledFiles x = tree();
        for (int path : Given.NO_PATHS) {
            Check.bad(Integer.toHexString(path), () -> x.rename(path, 9));
        }
    }

    static void promise10_aToThatIsNoPathIsBad() {
        JournaledFiles x = tree();
        for (int path : Given.NO_PATHS) {
            Check.bad(Integer.toHexString(path), () -> x.rename(3, path));
        }
    }

    static void promise10_badComesBeforeMissing() {
        JournaledFiles x = tree();
        Check.bad("from is missing, to is bad", () -> x.rename(9, 0x0100));
        Check.bad("from is bad, to leads through a file", () -> x.rename(0x0100, 0x0301));
    }

    static void promise10_badComesBeforeRefused() {
        JournaledFiles x = tree();
        Check.bad("from is the root, to is bad", () -> x.rename(0, 0x0100));
        Check.bad("from is bad, to is the root", () -> x.rename(0x0100, 0));
        Check.bad("both are the same bad one", () -> x.rename(0x0100, 0x0100));
    }

    static void promise10_fromIsTheRootIsRefused() {
        JournaledFiles x = tree();
        Check.refused("to a free NAME", () -> x.rename(0, 9));
        Check.refused("to a file", () -> x.rename(0, 3));
    }

    static void promise10_toIsTheRootIsRefused() {
        JournaledFiles x = tree();
        Check.refused("a file", () -> x.rename(3, 0));
        Check.refused("a directory", () -> x.rename(4, 0));
    }

    static void promise10_bothAreTheRootIsRefused() {
        JournaledFiles x = new JournaledFiles();
        Check.refused("the root", () -> x.rename(0, 0));
    }

    static void promise10_toIsFromIsRefused() {
        JournaledFiles x = tree();
        Check.refused("a file", () -> x.rename(3, 3));
        Check.refused("a directory", () -> x.rename(4, 4));
        Check.refused("two NAMES", () -> x.rename(0x0102, 0x0102));
    }

    static void promise10_toIsBelowFromIsRefused() {
        JournaledFiles x = tree();
        Check.refused("a free NAME", () -> x.rename(1, 0x0109));
        Check.refused("where something is", () -> x.rename(1, 0x0102));
    }

    static void promise10_toIsFurtherBelowFromIsRefused() {
        JournaledFiles x = tree();
        Check.refused("two levels", () -> x.rename(1, 0x010209));
        x.directory(0x010203);
        Check.refused("three levels", () -> x.rename(1, 0x01020309));
        Check.refused("two levels, from one below", () -> x.rename(0x0102, 0x01020309));
    }

    static void promise10_toIsBelowAFromOf80AndAboveIsRefused() {
        JournaledFiles x = new JournaledFiles();
        x.directory(0xFF);
        x.directory(0xFFFF);
        x.directory(0xFFFFFF);
        Check.refused("one level", () -> x.rename(0xFFFFFF, 0xFFFFFF01));
        Check.refused("three levels", () -> x.rename(0xFF, 0xFFFFFF01));
    }

    static void promise10_aNameThatOnlyLooksLikeBelowIsFine() {
        JournaledFiles x = tree();
        x.directory(0x0104);
        Check.fine("from's digits are at the end of to", () -> x.rename(4, 0x010204));
        x.rename(0x010204, 4);
        Check.fine("from's digits are in the middle of to", () -> x.rename(0x0102, 0x0402));
        Check.due("INODE", x.stat(0x0402, 2), 2);
    }

    static void promise10_toIsAboveFromIsRefused() {
        JournaledFiles x = tree();
        Check.refused("a directory is there", () -> x.rename(0x0102, 1));
    }

    static void promise10_aFileOntoADirectoryIsRefused() {
        JournaledFiles x = tree();
        Check.refused("an empty one", () -> x.rename(3, 4));
        Check.refused("one with ENTRIES", () -> x.rename(3, 1));
    }

    static void promise10_aDirectoryOntoAFileIsRefused() {
        JournaledFiles x = tree();
        Check.refused("an empty one", () -> x.rename(4, 3));
        Check.refused("one with ENTRIES", () -> x.rename(1, 3));
    }

    static void promise10_aDirectoryOntoADirectoryIsRefused() {
        JournaledFiles x = tree();
        Check.refused("onto an empty one", () -> x.rename(1, 4));
        Check.refused("onto one with ENTRIES", () -> x.rename(4, 1));
    }

    static void promise10_fromLeadsNowhereIsMissing() {
        JournaledFiles x = tree();
        Check.missing("nothing there", () -> x.rename(9, 8));
        Check.missing("below nothing", () -> x.rename(0x0901, 8));
        Check.missing("below a file", () -> x.rename(0x0301, 8));
    }

    static void promise10_toLeadsNowhereIsMissing() {
        JournaledFiles x = tree();
        Check.missing("below nothing", () -> x.rename(3, 0x0901));
        Check.missing("further below nothing", () -> x.rename(3, 0x01090101));
    }

    static void promise10_toLeadsThroughAFileIsMissing() {
        JournaledFiles x = tree();
        Check.missing("below a file", () -> x.rename(4, 0x0304));
        Check.missing("further below a file", () -> x.rename(4, 0x030401));
    }

    static void promise10_missingComesBeforeRefused() {
        JournaledFiles x = tree();
        Check.missing("from is missing, to is the root", () -> x.rename(9, 0));
        Check.missing("from is missing, to is from", () -> x.rename(9, 9));
        Check.missing("from is missing, to is below it", () -> x.rename(9, 0x0901));
        Check.missing("from is missing, to is a directory", () -> x.rename(9, 4));
        Check.missing("from is the root, to leads nowhere", () -> x.rename(0, 0x0901));
        Check.missing("to is below from, and leads nowhere", () -> x.rename(1, 0x010901));
        Check.missing("to is below from, which is a file", () -> x.rename(3, 0x0301));
    }

    static void promise10_refusedComesBeforeFull() {
        JournaledFiles x = Given.fullDiskWithADirectory();
        Check.refused("the first ENTRY below itself", () -> x.rename(1, 0x0101));
    }

    static void promise10_missingComesBeforeFull() {
        JournaledFiles x = Given.fullDiskWithADirectory();
        Check.missing("from", () -> x.rename(0x20, 0x0101));
    }

    static void promise10_theInodeAndItsGenerationStay() {
        JournaledFiles x = tree();
        x.rename(3, 0x0403);
        Check.due("INODE", x.stat(0x0403, 2), 3);
        Check.due("INODE 3", Given.inode(x, 3), "010801010b000000");
        Check.missing("from", () -> x.stat(3, 0));
    }

    static void promise10_handlesGoOn() {
        JournaledFiles x = Given.openFile(8);
        x.read(0, 2);
        x.rename(1, 2);
        Check.due("none is STALE", x.count(6), 0);
        Check.due("where it stood", x.read(0, 1), 3);
    }

    static void promise10_inOneDirectoryFromsEntryGoesFirst() {
        JournaledFiles x = new JournaledFiles();
        Given.files(x, 1, 3);
        x.rename(1, 9);
        Check.due("entries", Check.blocks(x, 9, 9), "03030202090100000000000000000000");
        Check.due("SIZE", x.stat(0, 1), 6);
    }

    static void promise10_theLastEntryToANewNameStaysInItsPlace() {
        JournaledFiles x = new JournaledFiles();
        Given.files(x, 1, 3);
        x.rename(3, 9);
        Check.due("entries", Check.blocks(x, 9, 9), "01010202090300000000000000000000");
    }

    static void promise10_theOnlyEntryToANewName() {
        JournaledFiles x = Given.openFile();
        x.rename(1, 9);
        Check.due("entries", Check.blocks(x, 9, 9), "09010000000000000000000000000000");
        Check.due("the root", Given.inode(x, 0), "0202010109000000");
    }

    static void promise10_theOnlyEntryOfADirectoryLeavesItEmpty() {
        JournaledFiles x = tree();
        x.rename(0x0102, 2);
        Check.due("INODE 1", Given.inode(x, 1), "0200010100000000");
        Check.due("its block is free", x.count(0), 29);
    }

    static void promise10_intoAnEmptyDirectoryTakesABlock() {
        JournaledFiles x = tree();
        x.rename(3, 0x0403);
        Check.due("INODE 4", Given.inode(x, 4), "020201010c000000");
        Check.due("its ENTRY", Check.blocks(x, 12, 12), "03030000000000000000000000000000");
    }

    static void promise10_fromADirectoryOf80AndAboveToFourNames() {
        JournaledFiles x = new JournaledFiles();
        x.directory(0xFE);
        x.directory(0xFEFE);
        x.directory(0xFEFEFE);
        Given.file(x, 0xFEFEFEFE, 3);
        x.rename(0xFEFEFEFE, 0xFEFEFE01);
        Check.due("SIZE", x.stat(0xFEFEFE01, 1), 3);
        x.rename(0xFEFEFE01, 0xFF);
        Check.due("SIZE", x.stat(0xFF, 1), 3);
    }

    /** What is below it has no PATH any more, since five NAMES are none; it is there all the same. */
    static void promise10_aDirectoryMayGoSoDeepThatNoPathLeadsBelowIt() {
        JournaledFiles x = new JournaledFiles();
        x.directory(1);
        x.directory(0x0101);
        x.directory(0x010101);
        x.directory(2);
        Given.file(x, 0x0203, 5);
        x.rename(2, 0x01010102);
        Check.due("ENTRIES", x.stat(0x01010102, 4), 1);
        Check.refused("not without ENTRIES", () -> x.remove(0x01010102));
        x.rename(0x01010102, 2);
        Check.due("SIZE", x.stat(0x0203, 1), 5);
    }

    static void promise10_aFileTakesAFilesPlace() {
        JournaledFiles x = new JournaledFiles();
        Given.file(x, 1, 3);
        x.directory(2);
        Given.file(x, 0x0205, 0);
        Given.file(x, 0x0206, 64);
        Given.file(x, 0x0207, 0);
        x.rename(1, 0x0206);
        Check.due("SIZE", x.stat(0x0206, 1), 3);
        Check.due("where it stands", Check.blocks(x, 11, 11), "05030601070500000000000000000000");
        Check.missing("from", () -> x.stat(1, 0));
    }

    static void promise10_theFileThatWasThereIsFreed() {
        JournaledFiles x = new JournaledFiles();
        x.open(1, 2, true, false, false);
        x.write(0, -1, 8);
        Given.file(x, 2, 3);
        x.rename(2, 1);
        Check.due("INODE 1", Given.inode(x, 1), "0000000100000000");
        Check.due("its block is 0", Check.blocks(x, 10, 10), Given.ZEROS);
        Check.due("and free", x.count(0), 29);
        Check.due("its HANDLE is STALE", x.count(6), 1);
    }

    static void promise10_aFilesPlaceThatWasTheLastOneMovesFirst() {
        JournaledFiles x = new JournaledFiles();
        Given.files(x, 1, 3);
        x.rename(1, 3);
        Check.due("3 took the place of 1", Check.blocks(x, 9, 9), "03010202000000000000000000000000");
    }

    static void promise10_aFilesPlaceBeforeFromStays() {
        JournaledFiles x = new JournaledFiles();
        Given.files(x, 1, 3);
        x.rename(3, 1);
        Check.due("entries", Check.blocks(x, 9, 9), "01030202000000000000000000000000");
    }

    static void promise10_aFilesPlaceWithTwoEntriesInAll() {
        JournaledFiles x = new JournaledFiles();
        Given.files(x, 1, 2);
        x.rename(1, 2);
        Check.due("entries", Check.blocks(x, 9, 9), "02010000000000000000000000000000");
        Check.due("SIZE", x.stat(0, 1), 2);
    }

    static void promise10_aFilesPlaceInTheSecondBlockMovesIntoTheFirst() {
        JournaledFiles x = new JournaledFiles();
        Given.files(x, 1, 9);
        x.rename(2, 9);
        Check.due("one block", Given.inode(x, 0), "0210010109000000");
        Check.due("entries", Check.blocks(x, 9, 10), "01010902030304040505060607070808 " + Given.ZEROS);
    }

    static void promise10_aFilesPlaceNeedsNoRoom() {
        JournaledFiles x = fullRootAndDisk();
        Check.fine("from another directory", () -> x.rename(0x0901, 1));
        Check.due("eight ENTRIES", x.stat(0, 4), 8);
        JournaledFiles y = Given.fullDisk();
        Check.fine("from the same directory", () -> y.rename(1, 2));
        Check.due("seven ENTRIES", y.stat(0, 4), 7);
    }

    static void promise10_noBlockForTheFirstEntryIsFull() {
        JournaledFiles x = Given.fullDiskWithADirectory();
        Check.due("a tenth ENTRY of the root", x.directory(0x20), 10);
        Check.full("no block", () -> x.rename(2, 0x0102));
        x.truncate(9, 0);
        Check.fine("with one free block", () -> x.rename(2, 0x0102));
    }

    static void promise10_noBlockForTheNinthEntryIsFull() {
        JournaledFiles x = fullRootAndDisk();
        Check.full("the ninth", () -> x.rename(0x0901, 8));
        x.truncate(7, 0);
        Check.fine("with one free block", () -> x.rename(0x0901, 8));
        Check.due("nine ENTRIES", x.stat(0, 4), 9);
    }

    static void promise10_thePlaceThatFromsEntryLeavesServesInAFullBlock() {
        JournaledFiles x = Given.fullDisk();
        Check.due("eight ENTRIES", x.stat(0, 4), 8);
        Check.fine("the eighth again", () -> x.rename(1, 9));
        Check.due("ENTRIES", Check.blocks(x, 9, 9), "08080202030304040505060607070901");
    }

    static void promise10_theBlockThatFromsEntryFreesServesTosEntry() {
        JournaledFiles x = Given.fullDiskWithADirectory();
        Check.due("nine ENTRIES", x.stat(0, 4), 9);
        Check.due("no block is free", x.count(0), 0);
        Check.fine("the ninth one's block", () -> x.rename(2, 0x0102));
        Check.due("no block is free", x.count(0), 0);
        Check.due("the root", Given.inode(x, 0), "0210010109000000");
        Check.due("block 38 has moved", Given.inode(x, 1), "0202010126000000");
    }

    static void promise10_theBlockThatFromsEntryFreesServesInOneDirectory() {
        JournaledFiles x = Given.fullDiskWithADirectory();
        Check.fine("the ninth one's block", () -> x.rename(2, 0x20));
        Check.due("the root", Given.inode(x, 0), "0212010109260000");
        Check.due("its last ENTRY", Check.blocks(x, 38, 38), "20020000000000000000000000000000");
    }

    static void promise10_theFreedBlockIsTakenOnlyIfItIsTheLeast() {
        JournaledFiles x = new JournaledFiles();
        Given.file(x, 1, 16);
        Given.files(x, 2, 9);
        Check.due("the root", Given.inode(x, 0), "02120101090b0000");
        x.truncate(1, 0);
        x.rename(2, 0x20);
        Check.due("block 10 is less than 11", Given.inode(x, 0), "02120101090a0000");
        Check.due("block 11 is 0", Check.blocks(x, 11, 11), Given.ZEROS);
    }

    static void promise10_withoutAFreeInodeItIsFine() {
        JournaledFiles x = Given.noFreeInode();
        Check.fine("in one directory", () -> x.rename(1, 0x20));
        Check.fine("into another one", () -> x.rename(2, 0x2002));
    }

    static void promise10_ofElevenEntriesAllCanBeRenamed() {
        JournaledFiles x = Given.noFreeInode();
        for (int name = 1; name <= 11; name++) {
            x.rename(name, 0x20 + name);
        }
        Check.due("ENTRIES", x.stat(0, 4), 11);
        Check.due("the first", x.stat(0x21, 2), 1);
        Check.due("the last", x.stat(0x2B, 2), 11);
    }

    static void promise10_isDoneOrNotAtAllWhenPowerFails() {
        JournaledFiles whole = tree();
        whole.commit();
        whole.rename(3, 0x0103);
        int differing = whole.count(3);
        for (int cut = 1; cut <= 2 * differing + 1; cut++) {
            JournaledFiles x = tree();
            x.commit();
            x.rename(3, 0x0103);
            x.cutPower(cut);
            Check.refused("cut " + cut, x::commit);
            boolean isDone = cut > differing + 1;
            Check.due("from, cut " + cut, Check.thrownBy(() -> x.stat(3, 0)), isDone ? "Missing" : "nothing");
            Check.due("to, cut " + cut, Check.thrownBy(() -> x.stat(0x0103, 0)), isDone ? "nothing" : "Missing");
        }
    }

    static void promise10_whatThrowsHasChangedNothing() {
        Trace.History history = x -> {
            plant(x);
            x.open(3, 3, false, false, false);
            x.write(0, 0x0807060504030201L, 8);
            x.open(1, 4, false, false, false);
            x.seek(0, 2);
        };
        Check.changesNothing("Bad", "Bad", history, x -> x.rename(3, 0x0100));
        Check.changesNothing("from", "Missing", history, x -> x.rename(9, 3));
        Check.changesNothing("to", "Missing", history, x -> x.rename(3, 0x0901));
        Check.changesNothing("to the root", "Refused", history, x -> x.rename(3, 0));
        Check.changesNothing("itself", "Refused", history, x -> x.rename(3, 3));
        Check.changesNothing("below itself", "Refused", history, x -> x.rename(1, 0x0109));
        Check.changesNothing("onto a directory", "Refused", history, x -> x.rename(3, 4));
        Check.changesNothing("onto a file", "Refused", history, x -> x.rename(4, 3));
        Check.changesNothing("no block", "Full", x -> {
            fillRootAndDisk(x);
            x.open(0x0901, 3, false, false, false);
            x.open(9, 4, false, false, false);
        }, x -> x.rename(0x0901, 8));
    }
}
