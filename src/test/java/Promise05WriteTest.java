/** Promise 5, the boundary cases of write. */
public final class Promise05WriteTest {
    public static void main(String[] args) {
        Cases.run(Promise05WriteTest.class);
    }

    static void promise05_aHandleOutOfRangeIsBad() {
        JournaledFiles x = Given.openFile();
        for (int handle : Given.NO_HANDLES) {
            Check.bad("HANDLE " + handle, () -> x.write(handle, 1, 1));
            Check.bad("HANDLE " + handle + ", no bytes", () -> x.write(handle, 1, 0));
        }
    }

    static void promise05_fewerThan0BytesAreBad() {
        JournaledFiles x = Given.openFile();
        Check.bad("-1", () -> x.write(0, 1, -1));
        Check.bad("the least int", () -> x.write(0, 1, Integer.MIN_VALUE));
    }

    static void promise05_moreThan8BytesAreBad() {
        JournaledFiles x = Given.openFile();
        Check.bad("9", () -> x.write(0, 1, 9));
        Check.bad("the greatest int", () -> x.write(0, 1, Integer.MAX_VALUE));
    }

    static void promise05_badComesBeforeRefused() {
        JournaledFiles x = new JournaledFiles();
        Check.bad("9 bytes, not open", () -> x.write(0, 1, 9));
        Check.bad("-1 bytes, not open", () -> x.write(5, 1, -1));
    }

    static void promise05_badComesBeforeFull() {
        JournaledFiles x = Given.openFile();
        x.seek(0, 64);
        Check.bad("9 bytes at 64", () -> x.write(0, 1, 9));
    }

    static void promise05_noBytesLeaveThePosition() {
        JournaledFiles x = Given.openFile(3);
        x.seek(0, 1);
        x.write(0, -1, 0);
        Check.due("byte 1", x.read(0, 1), 2);
    }

    static void promise05_noBytesBehindTheSizeLeaveTheSize() {
        JournaledFiles x = Given.openFile(3);
        x.seek(0, 40);
        x.write(0, -1, 0);
        Check.due("SIZE", x.stat(1, 1), 3);
        Check.due("no block was taken", x.count(0), 29);
    }

    static void promise05_noBytesAt64AreFine() {
        JournaledFiles x = Given.openFile(64);
        x.seek(0, 64);
        Check.fine("none", () -> x.write(0, -1, 0));
        Check.due("SIZE", x.stat(1, 1), 64);
    }

    static void promise05_noBytesOnAFullDiskAreFine() {
        JournaledFiles x = Given.fullDisk();
        x.open(8, 2, false, true, false);
        Check.fine("none", () -> x.write(0, -1, 0));
    }

    static void promise05_noBytesOnAHandleThatCannotWriteAreRefused() {
        JournaledFiles x = Given.openFile();
        x.open(1, 1, false, false, false);
        Check.refused("MODE 1", () -> x.write(1, 1, 0));
        Check.refused("not open", () -> x.write(2, 1, 0));
        x.remove(1);
        Check.refused("STALE", () -> x.write(0, 1, 0));
    }

    static void promise05_oneByteIsTheLowestOne() {
        JournaledFiles x = Given.openFile();
        x.write(0, 0x8877665544332211L, 1);
        Check.due("SIZE", x.stat(1, 1), 1);
        Check.due("bytes", Check.blocks(x, 10, 10), "11000000000000000000000000000000");
    }

    static void promise05_eightBytesAreAllOfTheNumber() {
        JournaledFiles x = Given.openFile();
        x.write(0, 0x8877665544332211L, 8);
        Check.due("SIZE", x.stat(1, 1), 8);
        Check.due("bytes", Check.blocks(x, 10, 10), "11223344556677880000000000000000");
    }

    static void promise05_theGreatestAndLeastNumbersAreWrittenAsTheyAre() {
        JournaledFiles x = Given.openFile();
        x.write(0, Long.MIN_VALUE, 8);
        x.write(0, Long.MAX_VALUE, 8);
        x.write(0, -1L, 8);
        Check.due("bytes", Check.blocks(x, 10, 11),
                "0000000000000080ffffffffffffff7f ffffffffffffffff0000000000000000");
    }

    static void promise05_positionGoesBehindTheBytes() {
        JournaledFiles x = Given.openFile(16);
        x.write(0, -1, 5);
        Check.due("byte 5", x.read(0, 1), 6);
    }

    static void promise05_beforeTheSizeTheFileGetsNoLonger() {
        JournaledFiles x = Given.openFile(8);
        x.write(0, -1, 8);
        Check.due("SIZE", x.stat(1, 1), 8);
        x.seek(0, 2);
        x.write(0, 0xABCD, 2);
        Check.due("SIZE", x.stat(1, 1), 8);
        Check.due("bytes", Check.blocks(x, 10, 10), "ffffcdabffffffff0000000000000000");
    }

    static void promise05_overTheSizeTheFileGetsLonger() {
        JournaledFiles x = Given.openFile(4);
        x.seek(0, 3);
        x.write(0, 0xABCD, 2);
        Check.due("SIZE", x.stat(1, 1), 5);
        Check.due("bytes", Check.blocks(x, 10, 10), "010203cdab0000000000000000000000");
    }

    static void promise05_atTheSizeThereIsNoGap() {
        JournaledFiles x = Given.openFile(4);
        x.seek(0, 4);
        x.write(0, 0xAB, 1);
        Check.due("SIZE", x.stat(1, 1), 5);
        Check.due("bytes", Check.blocks(x, 10, 10), "01020304ab0000000000000000000000");
    }

    static void promise05_aGapInTheLastBlockIs0() {
        JournaledFiles x = Given.openFile(2);
        x.seek(0, 3);
        x.write(0, 0xAB, 1);
        Check.due("SIZE", x.stat(1, 1), 4);
        Check.due("bytes", Check.blocks(x, 10, 10), "010200ab000000000000000000000000");
    }

    static void promise05_aGapOfWholeBlocksIs0() {
        JournaledFiles x = Given.openFile(2);
        x.seek(0, 63);
        x.write(0, 0xAB, 1);
        Check.due("SIZE", x.stat(1, 1), 64);
        Check.due("all four blocks", Given.inode(x, 1), "014001010a0b0c0d");
        Check.due("bytes", Check.blocks(x, 10, 13), "01020000000000000000000000000000 " + Given.ZEROS + " "
                + Given.ZEROS + " 000000000000000000000000000000ab");
    }

    static void promise05_aGapInAnEmptyFileIs0() {
        JournaledFiles x = Given.openFile();
        x.seek(0, 16);
        x.write(0, 0xAB, 1);
        Check.due("both blocks", Given.inode(x, 1), "011101010a0b0000");
        Check.due("bytes", Check.blocks(x, 10, 11), Given.ZEROS + " ab000000000000000000000000000000");
    }

    static void promise05_aGapAfterACutOffIs0() {
        JournaledFiles x = Given.openFile(16);
        x.truncate(1, 2);
        x.seek(0, 10);
        x.write(0, 0xAB, 1);
        Check.due("bytes", Check.blocks(x, 10, 10), "01020000000000000000ab0000000000");
    }

    static void promise05_aGapInBlocksThatOthersHadIs0() {
        JournaledFiles x = Given.openFile(64);
        x.open(2, 2, true, false, false);
        x.remove(1);
        x.seek(1, 40);
        x.write(1, 0xAB, 1);
        Check.due("the freed blocks", Given.inode(x, 2), "012901010a0b0c00");
        Check.due("bytes", Check.blocks(x, 10, 12),
                Given.ZEROS + " " + Given.ZEROS + " 0000000000000000ab00000000000000");
    }

    static void promise05_upToTheBlocksEdgeNeedsNoFurtherBlock() {
        JournaledFiles x = Given.openFile(15);
        x.seek(0, 15);
        x.write(0, 0xAB, 1);
        Check.due("one block", Given.inode(x, 1), "011001010a000000");
    }

    static void promise05_overTheBlocksEdgeNeedsAFurtherBlock() {
        JournaledFiles x = Given.openFile(15);
        x.seek(0, 15);
        x.write(0, 0xCDAB, 2);
        Check.due("two blocks", Given.inode(x, 1), "011101010a0b0000");
        Check.due("the last byte of the first", x.block(10, 15, false), 0xAB);
        Check.due("the first byte of the second", x.block(11, 0, false), 0xCD);
    }

    static void promise05_upTo64BytesIsFine() {
        JournaledFiles x = Given.openFile();
        x.seek(0, 56);
        Check.fine("bytes 56 to 63", () -> x.write(0, -1, 8));
        Check.due("SIZE", x.stat(1, 1), 64);
        x.seek(0, 63);
        Check.fine("byte 63", () -> x.write(0, 0xAB, 1));
        Check.due("the last byte", x.block(13, 15, false), 0xAB);
    }

    static void promise05_above64BytesIsFull() {
        JournaledFiles x = Given.openFile(64);
        x.seek(0, 64);
        Check.full("byte 64", () -> x.write(0, 0xAB, 1));
        x.seek(0, 63);
        Check.full("bytes 63 and 64", () -> x.write(0, 0xAB, 2));
        x.seek(0, 57);
        Check.full("bytes 57 to 64", () -> x.write(0, 0xAB, 8));
        Check.due("not one byte was written", x.block(13, 9, false), 58);
        Check.due("POSITION stayed", x.read(0, 1), 58);
    }

    static void promise05_above64BytesInAnEmptyFileIsFull() {
        JournaledFiles x = Given.openFile();
        x.seek(0, 64);
        Check.full("byte 64", () -> x.write(0, 0xAB, 1));
        Check.due("SIZE", x.stat(1, 1), 0);
        Check.due("no block was taken", x.count(0), 30);
    }

    static void promise05_withTheLastFreeBlockItIsFine() {
        JournaledFiles x = Given.almostFullDisk();
        x.open(8, 2, false, true, false);
        Check.fine("one block", () -> x.write(0, 0xAB, 1));
        Check.due("none is free", x.count(0), 0);
    }

    static void promise05_withoutAFreeBlockItIsFull() {
        JournaledFiles x = Given.fullDisk();
        x.open(8, 2, false, true, false);
        Check.full("one block", () -> x.write(0, 0xAB, 1));
        Check.due("SIZE", x.stat(8, 1), 32);
    }

    static void promise05_withTooFewFreeBlocksForAllBytesItIsFull() {
        JournaledFiles x = Given.fullDisk();
        x.truncate(8, 31);
        x.open(8, 2, false, true, false);
        Check.full("the second byte needs one", () -> x.write(0, 0xABCD, 2));
        Check.due("SIZE", x.stat(8, 1), 31);
        Check.fine("the first byte alone", () -> x.write(0, 0xAB, 1));
        Check.due("POSITION had stayed", x.stat(8, 1), 32);
    }

    static void promise05_withTooFewFreeBlocksForTheGapItIsFull() {
        JournaledFiles x = Given.almostFullDisk();
        x.open(8, 2, false, false, false);
        x.seek(0, 32);
        Check.full("two blocks", () -> x.write(0, 0xAB, 1));
        Check.due("none was taken", x.count(0), 1);
        Check.due("SIZE", x.stat(8, 1), 16);
    }

    static void promise05_withoutFreeBlocksWhatIsThereCanBeWritten() {
        JournaledFiles x = Given.fullDisk();
        x.open(8, 2, false, false, false);
        x.seek(0, 24);
        Check.fine("bytes 24 to 31", () -> x.write(0, -1, 8));
        Check.due("SIZE", x.stat(8, 1), 32);
    }

    static void promise05_aHandleThatIsNotOpenIsRefused() {
        JournaledFiles x = Given.openFile();
        x.close(0);
        for (int handle = 0; handle < 6; handle++) {
            int h = handle;
            Check.refused("HANDLE " + h, () -> x.write(h, 1, 1));
        }
    }

    static void promise05_aStaleHandleIsRefused() {
        JournaledFiles x = Given.openFile();
        x.remove(1);
        Check.refused("the INODE is free", () -> x.write(0, 1, 1));
        x.open(1, 2, true, false, false);
        Check.refused("the INODE has another GENERATION", () -> x.write(0, 1, 1));
        Check.due("nothing was written", x.stat(1, 1), 0);
    }

    static void promise05_aStaleHandleIsRefusedWhereADirectoryIsNow() {
        JournaledFiles x = Given.openFile();
        x.remove(1);
        x.directory(1);
        Check.due("the same INODE", x.stat(1, 2), 1);
        Check.refused("write", () -> x.write(0, 1, 1));
        Check.due("nothing was written", x.stat(1, 1), 0);
    }

    static void promise05_mode1IsRefused() {
        JournaledFiles x = Given.openFile();
        x.open(1, 1, false, false, false);
        Check.refused("MODE 1", () -> x.write(1, 1, 1));
    }

    static void promise05_mode4IsRefused() {
        JournaledFiles x = new JournaledFiles();
        x.open(0, 4, false, false, false);
        Check.refused("MODE 4", () -> x.write(0, 1, 1));
        Check.due("the root is as it was", x.stat(0, 1), 0);
    }

    static void promise05_modes2And3AreFine() {
        JournaledFiles x = Given.openFile();
        x.open(1, 2, false, false, false);
        Check.fine("MODE 2", () -> x.write(1, 1, 1));
        Check.fine("MODE 3", () -> x.write(0, 1, 1));
    }

    static void promise05_refusedComesBeforeFull() {
        JournaledFiles x = Given.openFile();
        x.open(1, 1, false, false, false);
        x.seek(0, 64);
        x.seek(1, 64);
        Check.refused("MODE 1 at 64", () -> x.write(1, 1, 1));
        x.remove(1);
        Check.refused("STALE at 64", () -> x.write(0, 1, 1));
    }

    static void promise05_otherHandlesStayWhereTheyStand() {
        JournaledFiles x = Given.openFile(8);
        x.open(1, 1, false, false, false);
        x.read(1, 3);
        x.write(0, -1, 8);
        Check.due("bytes 3 to 7", x.read(1, 8), 0xFFFFFFFFFFL);
    }

    static void promise05_whatThrowsHasChangedNothing() {
        Trace.History history = x -> {
            x.open(1, 3, true, false, false);
            x.write(0, 0x030201, 3);
            x.open(1, 1, false, false, false);
            x.commit();
            x.write(0, 0x04, 1);
            x.seek(0, 60);
            x.cutPower(20);
        };
        Check.changesNothing("Bad", "Bad", history, x -> x.write(0, -1, 9));
        Check.changesNothing("Refused", "Refused", history, x -> x.write(1, -1, 8));
        Check.changesNothing("above 64", "Full", history, x -> x.write(0, -1, 5));
        Check.changesNothing("no block", "Full", x -> {
            Given.fillDisk(x);
            x.truncate(8, 30);
            x.open(8, 3, false, true, false);
        }, x -> x.write(0, -1, 3));
    }
}
