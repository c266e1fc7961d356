/** Promise 2, the boundary cases of directory. */
public final class Promise02DirectoryTest {
    public static void main(String[] args) {
        Cases.run(Promise02DirectoryTest.class);
    }

    static void promise02_aPathThatIsNoneIsBad() {
        JournaledFiles x = new JournaledFiles();
        for (int path : Given.NO_PATHS) {
            Check.bad(Integer.toHexString(path), () -> x.directory(path));
        }
    }

    static void promise02_theRootIsRefused() {
        JournaledFiles x = new JournaledFiles();
        Check.refused("the root", () -> x.directory(0));
    }

    static void promise02_whereADirectoryIsItIsRefused() {
        JournaledFiles x = new JournaledFiles();
        x.directory(1);
        Check.refused("a directory", () -> x.directory(1));
        Check.due("the same one", x.stat(1, 3), 1);
    }

    static void promise02_whereAFileIsItIsRefused() {
        JournaledFiles x = Given.openFile();
        Check.refused("a file", () -> x.directory(1));
        Check.due("still a file", x.stat(1, 0), 1);
    }

    static void promise02_belowNothingItIsMissing() {
        JournaledFiles x = new JournaledFiles();
        Check.missing("two NAMES", () -> x.directory(0x0102));
        Check.missing("four NAMES", () -> x.directory(0x01020304));
        x.directory(1);
        Check.missing("the second of three", () -> x.directory(0x010203));
    }

    static void promise02_belowAFileItIsMissing() {
        JournaledFiles x = Given.openFile();
        Check.missing("below a file", () -> x.directory(0x0102));
        Check.missing("further below a file", () -> x.directory(0x010203));
    }

    static void promise02_theLeastAndTheGreatestNameAreFine() {
        JournaledFiles x = new JournaledFiles();
        Check.due("NAME 1", x.directory(1), 1);
        Check.due("NAME 255", x.directory(255), 2);
        Check.due("entries", Check.blocks(x, 9, 9), "0101ff02000000000000000000000000");
    }

    static void promise02_fourNamesAreFine() {
        JournaledFiles x = new JournaledFiles();
        x.directory(0x7F);
        x.directory(0x7FFF);
        x.directory(0x7FFFFF);
        Check.due("the greatest int", x.directory(Integer.MAX_VALUE), 4);
        Check.due("its INODE", x.stat(Integer.MAX_VALUE, 2), 4);
    }

    static void promise02_fourNamesWithAFirstNameOf80AndAboveAreFine() {
        JournaledFiles x = new JournaledFiles();
        x.directory(0x80);
        x.directory(0x8001);
        x.directory(0x800101);
        Check.due("80010101", x.directory(0x80010101), 4);
        x.directory(0xFF);
        x.directory(0xFFFF);
        x.directory(0xFFFFFF);
        Check.due("ffffffff", x.directory(-1), 8);
        Check.due("its INODE", x.stat(-1, 2), 8);
    }

    static void promise02_aNewOneIsEmptyAndHasNoBlock() {
        JournaledFiles x = new JournaledFiles();
        x.directory(1);
        Check.due("INODE 1", Given.inode(x, 1), "0200010100000000");
        Check.due("only the root's block", x.count(0), 30);
        Check.due("ENTRIES", x.stat(1, 4), 0);
    }

    static void promise02_aNewOneAfterAFullOneIsEmptyAgain() {
        JournaledFiles x = Given.openFile(64);
        x.remove(1);
        x.directory(1);
        Check.due("INODE 1", Given.inode(x, 1), "0200010200000000");
        Check.due("ENTRIES", x.stat(1, 4), 0);
    }

    static void promise02_theAnswerIsTheLeastFreeInode() {
        JournaledFiles x = Given.noFreeInode();
        x.remove(7);
        x.remove(3);
        x.remove(11);
        Check.due("least", x.directory(0x20), 3);
        Check.due("next", x.directory(0x21), 7);
        Check.due("the last", x.directory(0x22), 11);
    }

    static void promise02_withoutAFreeInodeItIsFull() {
        JournaledFiles x = new JournaledFiles();
        for (int name = 1; name <= 10; name++) {
            x.directory(name);
        }
        Check.due("the last INODE", x.directory(11), 11);
        Check.full("no INODE", () -> x.directory(12));
        Check.full("no INODE, below a directory", () -> x.directory(0x0101));
        x.remove(5);
        Check.due("one is free", x.directory(12), 5);
    }

    static void promise02_withoutABlockForTheFirstEntryItIsFull() {
        JournaledFiles x = Given.fullDiskWithADirectory();
        Check.due("no block is free", x.count(0), 0);
        Check.due("an INODE is", x.count(1), 2);
        Check.full("the first ENTRY", () -> x.directory(0x0101));
        x.truncate(9, 0);
        Check.due("with one free block", x.directory(0x0101), 10);
    }

    static void promise02_withoutABlockForTheNinthEntryItIsFull() {
        JournaledFiles x = Given.fullDisk();
        Check.due("eight ENTRIES", x.stat(0, 4), 8);
        Check.full("the ninth", () -> x.directory(9));
        x.truncate(8, 16);
        Check.due("with one free block", x.directory(9), 9);
        Check.due("none is free", x.count(0), 0);
    }

    static void promise02_aPlaceInABlockNeedsNoFreeBlock() {
        JournaledFiles x = Given.fullDiskWithADirectory();
        Check.due("no block is free", x.count(0), 0);
        Check.due("the tenth ENTRY", x.directory(0x20), 10);
    }

    /** There are 12 INODES, so that no directory can ever come to the 16 ENTRIES that it may have. */
    static void promise02_oneDirectoryHoldsAllElevenOthers() {
        JournaledFiles x = Given.noFreeInode();
        Check.due("ENTRIES", x.stat(0, 4), 11);
        Check.due("two blocks", Given.inode(x, 0), "02160101090a0000");
    }

    static void promise02_badComesBeforeRefusedMissingAndFull() {
        JournaledFiles x = Given.noFreeInode();
        Check.bad("a directory is at 01", () -> x.directory(0x0100));
        Check.bad("nothing is at 20", () -> x.directory(0x2000));
    }

    static void promise02_missingComesBeforeFull() {
        JournaledFiles x = Given.noFreeInode();
        Check.missing("no INODE", () -> x.directory(0x2001));
        JournaledFiles y = Given.fullDisk();
        Check.missing("no block", () -> y.directory(0x0101));
    }

    static void promise02_refusedComesBeforeFull() {
        JournaledFiles x = Given.noFreeInode();
        Check.refused("it's there", () -> x.directory(11));
        Check.refused("the root", () -> x.directory(0));
    }

    static void promise02_theGenerationIsOneMoreThanItWas() {
        JournaledFiles x = Given.openFile();
        x.remove(1);
        x.directory(1);
        Check.due("a file before", x.stat(1, 3), 2);
        x.remove(1);
        x.directory(1);
        Check.due("a directory before", x.stat(1, 3), 3);
    }

    /** The look at the end is the object's 512th call. */
    static void promise02_theGenerationAfter255Is0() {
        JournaledFiles x = new JournaledFiles();
        for (int k = 1; k <= 255; k++) {
            x.directory(1);
            x.remove(1);
        }
        x.directory(1);
        Check.due("the 256th one", x.stat(1, 3), 0);
    }

    static void promise02_theGeneration255IsReached() {
        JournaledFiles x = new JournaledFiles();
        for (int k = 1; k <= 254; k++) {
            x.directory(1);
            x.remove(1);
        }
        x.directory(1);
        Check.due("the 255th one", x.stat(1, 3), 255);
    }

    static void promise02_whatThrowsHasChangedNothing() {
        Check.changesNothing("Bad", "Bad", x -> x.directory(1), x -> x.directory(0x0100));
        Check.changesNothing("Missing", "Missing", x -> x.directory(1), x -> x.directory(0x0203));
        Check.changesNothing("Refused", "Refused", x -> x.directory(1), x -> x.directory(1));
        Check.changesNothing("no block", "Full", Given::fillDisk, x -> x.directory(9));
        Check.changesNothing("no INODE", "Full", x -> Given.files(x, 1, 11), x -> x.directory(12));
    }
}
