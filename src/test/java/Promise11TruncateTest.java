/** Promise 11, the boundary cases of truncate. */
public final class Promise11TruncateTest {
    public static void main(String[] args) {
        Cases.run(Promise11TruncateTest.class);
    }

    static void promise11_aPathThatIsNoneIsBad() {
        JournaledFiles x = Given.openFile();
        for (int path : Given.NO_PATHS) {
            Check.bad(Integer.toHexString(path), () -> x.truncate(path, 0));
        }
    }

    static void promise11_aSizeBelow0IsBad() {
        JournaledFiles x = Given.openFile();
        Check.bad("-1", () -> x.truncate(1, -1));
        Check.bad("the least int", () -> x.truncate(1, Integer.MIN_VALUE));
    }

    static void promise11_aSizeAbove64IsBad() {
        JournaledFiles x = Given.openFile();
        Check.bad("65", () -> x.truncate(1, 65));
        Check.bad("the greatest int", () -> x.truncate(1, Integer.MAX_VALUE));
    }

    static void promise11_badComesBeforeMissing() {
        JournaledFiles x = new JournaledFiles();
        for (int size : Given.NO_SIZES) {
            Check.bad("SIZE " + size, () -> x.truncate(1, size));
        }
    }

    static void promise11_badComesBeforeRefused() {
        JournaledFiles x = new JournaledFiles();
        for (int size : Given.NO_SIZES) {
            Check.bad("SIZE " + size, () -> x.truncate(0, size));
        }
    }

    static void promise11_whereNothingIsItIsMissing() {
        JournaledFiles x = Given.openFile();
        Check.missing("nothing", () -> x.truncate(2, 0));
        Check.missing("below nothing", () -> x.truncate(0x0201, 0));
        Check.missing("below a file", () -> x.truncate(0x0101, 0));
    }

    static void promise11_aDirectoryIsRefused() {
        JournaledFiles x = new JournaledFiles();
        x.directory(1);
        Check.refused("an empty one, to 0", () -> x.truncate(1, 0));
        x.directory(0x0102);
        Check.refused("one with an ENTRY, to its SIZE", () -> x.truncate(1, 2));
        Check.refused("one with an ENTRY, to 0", () -> x.truncate(1, 0));
    }

    static void promise11_theRootIsRefused() {
        JournaledFiles x = new JournaledFiles();
        Check.refused("0", () -> x.truncate(0, 0));
        Check.refused("64", () -> x.truncate(0, 64));
    }

    static void promise11_size0FreesAllBlocks() {
        JournaledFiles x = Given.openFile(64);
        x.truncate(1, 0);
        Check.due("INODE 1", Given.inode(x, 1), "0100010100000000");
        Check.due("free blocks", x.count(0), 30);
        Check.due("they are 0", Check.blocks(x, 10, 13),
                Given.ZEROS + " " + Given.ZEROS + " " + Given.ZEROS + " " + Given.ZEROS);
    }

    static void promise11_size64TakesFourBlocks() {
        JournaledFiles x = Given.openFile();
        x.truncate(1, 64);
        Check.due("INODE 1", Given.inode(x, 1), "014001010a0b0c0d");
        Check.due("free blocks", x.count(0), 26);
    }

    static void promise11_theSameSizeChangesNothing() {
        for (int size : new int[] {0, 1, 16, 17, 64}) {
            JournaledFiles x = Given.openFile(size);
            x.commit();
            x.truncate(1, size);
            Check.due("no block differs, SIZE " + size, x.count(3), 0);
        }
    }

    static void promise11_longerAtEachBlocksEdge() {
        int[] sizes = {1, 15, 16, 17, 31, 32, 33, 47, 48, 49, 63, 64};
        int[] blocks = {1, 1, 1, 2, 2, 2, 3, 3, 3, 4, 4, 4};
        JournaledFiles x = Given.openFile();
        for (int k = 0; k < sizes.length; k++) {
            x.truncate(1, sizes[k]);
            Check.due("SIZE", x.stat(1, 1), sizes[k]);
            Check.due("blocks for " + sizes[k], 30 - x.count(0), blocks[k]);
        }
    }

    static void promise11_shorterAtEachBlocksEdge() {
        int[] sizes = {63, 49, 48, 47, 33, 32, 31, 17, 16, 15, 1, 0};
        int[] blocks = {4, 4, 3, 3, 3, 2, 2, 2, 1, 1, 1, 0};
        JournaledFiles x = Given.openFile(64);
        for (int k = 0; k < sizes.length; k++) {
            x.truncate(1, sizes[k]);
            Check.due("SIZE", x.stat(1, 1), sizes[k]);
            Check.due("blocks for " + sizes[k], 30 - x.count(0), blocks[k]);
        }
    }

    static void promise11_whatIsCutOffIs0() {
        JournaledFiles x = Given.openFile(32);
        x.truncate(1, 17);
        Check.due("blocks", Check.blocks(x, 10, 11),
                "0102030405060708090a0b0c0d0e0f10 11000000000000000000000000000000");
        x.truncate(1, 15);
        Check.due("blocks", Check.blocks(x, 10, 11), "0102030405060708090a0b0c0d0e0f00 " + Given.ZEROS);
        x.truncate(1, 1);
        Check.due("blocks", Check.blocks(x, 10, 11), "01000000000000000000000000000000 " + Given.ZEROS);
    }

    static void promise11_whatWasCutOffDoesNotComeBack() {
        JournaledFiles x = Given.openFile(64);
        x.truncate(1, 3);
        x.truncate(1, 64);
        Check.due("blocks", Check.blocks(x, 10, 13), "01020300000000000000000000000000 " + Given.ZEROS + " "
                + Given.ZEROS + " " + Given.ZEROS);
    }

    static void promise11_0sComeBehindInBlocksThatOthersHad() {
        JournaledFiles x = Given.openFile(64);
        Given.file(x, 2, 0);
        x.remove(1);
        x.truncate(2, 64);
        Check.due("the freed blocks", Given.inode(x, 2), "014001010a0b0c0d");
        Check.due("blocks", Check.blocks(x, 10, 13),
                Given.ZEROS + " " + Given.ZEROS + " " + Given.ZEROS + " " + Given.ZEROS);
    }

    static void promise11_withTheLastFreeBlockItIsFine() {
        JournaledFiles x = Given.almostFullDisk();
        Check.fine("one block", () -> x.truncate(8, 32));
        Check.due("none is free", x.count(0), 0);
        Check.due("block 39 is used", x.block(0, 4, false), 255);
    }

    static void promise11_withoutAFreeBlockItIsFull() {
        JournaledFiles x = Given.fullDisk();
        Check.full("one block", () -> x.truncate(8, 33));
        Check.due("SIZE", x.stat(8, 1), 32);
    }

    static void promise11_withTooFewFreeBlocksItIsFullAndTakesNone() {
        JournaledFiles x = Given.almostFullDisk();
        Check.full("two blocks", () -> x.truncate(8, 33));
        Check.due("one is still free", x.count(0), 1);
        Check.due("SIZE", x.stat(8, 1), 16);
    }

    static void promise11_withoutFreeBlocksWithinTheLastBlockItIsFine() {
        JournaledFiles x = Given.fullDisk();
        Check.fine("shorter", () -> x.truncate(8, 17));
        Check.fine("longer", () -> x.truncate(8, 32));
        Check.fine("the same", () -> x.truncate(8, 32));
    }

    static void promise11_withoutFreeBlocksShorterIsFine() {
        JournaledFiles x = Given.fullDisk();
        Check.fine("64 to 0", () -> x.truncate(1, 0));
        Check.due("free blocks", x.count(0), 4);
    }

    static void promise11_missingComesBeforeFull() {
        JournaledFiles x = Given.fullDisk();
        Check.missing("nothing", () -> x.truncate(9, 64));
    }

    static void promise11_refusedComesBeforeFull() {
        JournaledFiles x = Given.fullDisk();
        Check.refused("the root", () -> x.truncate(0, 64));
    }

    static void promise11_handlesStayWhereTheyStand() {
        JournaledFiles x = Given.openFile(20);
        x.seek(0, 10);
        x.truncate(1, 5);
        Check.due("none is STALE", x.count(6), 0);
        Check.due("behind the SIZE", x.read(0, 8), 0);
        x.write(0, 0xAB, 1);
        Check.due("SIZE", x.stat(1, 1), 11);
    }

    static void promise11_whatThrowsHasChangedNothing() {
        Trace.History history = x -> {
            x.open(1, 3, true, false, false);
            x.write(0, 0x0807060504030201L, 8);
            x.seek(0, 2);
        };
        Check.changesNothing("Bad", "Bad", history, x -> x.truncate(1, 65));
        Check.changesNothing("Missing", "Missing", history, x -> x.truncate(2, 0));
        Check.changesNothing("Refused", "Refused", history, x -> x.truncate(0, 0));
        Check.changesNothing("Full", "Full", x -> {
            Given.fillDisk(x);
            x.truncate(8, 10);
        }, x -> x.truncate(8, 33));
    }
}
