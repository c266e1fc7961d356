/** Promise 6, the boundary cases of read. */
public final class Promise06ReadTest {
    public static void main(String[] args) {
        Cases.run(Promise06ReadTest.class);
    }

    static void promise06_aHandleOutOfRangeIsBad() {
        JournaledFiles x = Given.openFile(8);
        for (int handle : Given.NO_HANDLES) {
            Check.bad("HANDLE " + handle, () -> x.read(handle, 1));
            Check.bad("HANDLE " + handle + ", no bytes", () -> x.read(handle, 0));
        }
    }

    static void promise06_fewerThan0BytesAreBad() {
        JournaledFiles x = Given.openFile(8);
        Check.bad("-1", () -> x.read(0, -1));
        Check.bad("the least int", () -> x.read(0, Integer.MIN_VALUE));
    }

    static void promise06_moreThan8BytesAreBad() {
        JournaledFiles x = Given.openFile(16);
        Check.bad("9", () -> x.read(0, 9));
        Check.bad("the greatest int", () -> x.read(0, Integer.MAX_VALUE));
    }

    static void promise06_badComesBeforeRefused() {
        JournaledFiles x = new JournaledFiles();
        Check.bad("9 bytes, not open", () -> x.read(0, 9));
        Check.bad("-1 bytes, not open", () -> x.read(5, -1));
    }

    static void promise06_noBytesAre0AndLeaveThePosition() {
        JournaledFiles x = Given.openFile(8);
        x.seek(0, 3);
        Check.due("none", x.read(0, 0), 0);
        Check.due("byte 3", x.read(0, 1), 4);
    }

    static void promise06_noBytesOnAHandleThatCannotReadAreRefused() {
        JournaledFiles x = Given.openFile();
        x.open(1, 2, false, false, false);
        Check.refused("MODE 2", () -> x.read(1, 0));
        Check.refused("not open", () -> x.read(2, 0));
        x.remove(1);
        Check.refused("STALE", () -> x.read(0, 0));
    }

    static void promise06_oneByteIsLowest() {
        JournaledFiles x = Given.openFile(8);
        Check.due("byte 0", x.read(0, 1), 1);
        Check.due("byte 1", x.read(0, 1), 2);
    }

    static void promise06_eightBytesFillTheNumber() {
        JournaledFiles x = Given.openFile(16);
        Check.due("bytes 0 to 7", x.read(0, 8), 0x0807060504030201L);
        Check.due("bytes 8 to 15", x.read(0, 8), 0x100F0E0D0C0B0A09L);
    }

    static void promise06_bytesOf80AndAboveStayBytes() {
        JournaledFiles x = Given.openFile();
        x.write(0, 0x80FF80FF80FF80FFL, 8);
        x.seek(0, 0);
        Check.due("one", x.read(0, 1), 0xFF);
        Check.due("four", x.read(0, 4), 0xFF80FF80L);
        x.seek(0, 0);
        Check.due("eight", x.read(0, 8), 0x80FF80FF80FF80FFL);
    }

    static void promise06_anEmptyFileHasNothingToRead() {
        JournaledFiles x = Given.openFile();
        Check.due("8 bytes", x.read(0, 8), 0);
        x.write(0, 0xAB, 1);
        Check.due("POSITION had stayed", x.stat(1, 1), 1);
    }

    static void promise06_beforeTheEndAsManyAsThereAre() {
        JournaledFiles x = Given.openFile(10);
        x.seek(0, 7);
        Check.due("bytes 7 to 9", x.read(0, 8), 0x0A0908);
        x.write(0, 0xAB, 1);
        Check.due("POSITION went behind them, no further", x.stat(1, 1), 11);
    }

    static void promise06_exactlyUpToTheEnd() {
        JournaledFiles x = Given.openFile(10);
        x.seek(0, 2);
        Check.due("bytes 2 to 9", x.read(0, 8), 0x0A09080706050403L);
        Check.due("no more", x.read(0, 8), 0);
    }

    static void promise06_atTheEndNothing() {
        JournaledFiles x = Given.openFile(16);
        x.seek(0, 16);
        Check.due("8 bytes", x.read(0, 8), 0);
        x.write(0, 0xAB, 1);
        Check.due("POSITION had stayed", x.stat(1, 1), 17);
    }

    static void promise06_behindTheEndNothingAndPositionStays() {
        JournaledFiles x = Given.openFile(10);
        x.seek(0, 20);
        Check.due("8 bytes", x.read(0, 8), 0);
        x.write(0, 0xAB, 1);
        Check.due("POSITION had stayed", x.stat(1, 1), 21);
    }

    static void promise06_behindTheEndInTheSameBlockNothing() {
        JournaledFiles x = Given.openFile(16);
        x.truncate(1, 4);
        x.seek(0, 8);
        Check.due("8 bytes", x.read(0, 8), 0);
        x.truncate(1, 16);
        x.write(0, 0xAB, 1);
        Check.due("POSITION had stayed", x.block(10, 8, false), 0xAB);
    }

    static void promise06_theLastByteOf64() {
        JournaledFiles x = Given.openFile(64);
        x.seek(0, 63);
        Check.due("byte 63", x.read(0, 8), 64);
        Check.due("byte 64", x.read(0, 8), 0);
        x.seek(0, 64);
        Check.due("at 64", x.read(0, 1), 0);
    }

    static void promise06_overABlocksEdge() {
        JournaledFiles x = Given.openFile(64);
        for (int edge : new int[] {16, 32, 48}) {
            x.seek(0, edge - 1);
            Check.due("at " + edge, x.read(0, 2), (edge + 1) * 256 + edge);
        }
    }

    static void promise06_overABlocksEdgeBlocksNeedNotFollowEachOther() {
        JournaledFiles x = Given.openFile(16);
        Given.file(x, 2, 16);
        x.seek(0, 16);
        x.write(0, 0xAB, 1);
        Check.due("blocks 10 and 12", Given.inode(x, 1), "011101010a0c0000");
        x.seek(0, 15);
        Check.due("bytes 15 and 16", x.read(0, 8), 0xAB10);
    }

    static void promise06_aHandleThatIsNotOpenIsRefused() {
        JournaledFiles x = Given.openFile(8);
        x.close(0);
        for (int handle = 0; handle < 6; handle++) {
            int h = handle;
            Check.refused("HANDLE " + h, () -> x.read(h, 1));
        }
    }

    static void promise06_aStaleHandleIsRefused() {
        JournaledFiles x = Given.openFile(8);
        x.remove(1);
        Check.refused("the INODE is free", () -> x.read(0, 1));
        x.open(1, 2, true, false, false);
        Check.refused("the INODE has another GENERATION", () -> x.read(0, 1));
    }

    static void promise06_aStaleHandleIsRefusedWhereADirectoryIsNow() {
        JournaledFiles x = Given.openFile(8);
        x.remove(1);
        x.directory(1);
        x.directory(0x0102);
        Check.refused("read", () -> x.read(0, 1));
    }

    static void promise06_mode2IsRefused() {
        JournaledFiles x = Given.openFile(8);
        x.open(1, 2, false, false, false);
        Check.refused("MODE 2", () -> x.read(1, 1));
    }

    static void promise06_mode4IsRefused() {
        JournaledFiles x = Given.openFile(8);
        x.open(0, 4, false, false, false);
        Check.refused("MODE 4", () -> x.read(1, 1));
    }

    static void promise06_modes1And3AreFine() {
        JournaledFiles x = Given.openFile(8);
        x.open(1, 1, false, false, false);
        Check.due("MODE 1", x.read(1, 2), 0x0201);
        Check.due("MODE 3", x.read(0, 2), 0x0201);
    }

    static void promise06_whatThrowsHasChangedNothing() {
        Trace.History history = x -> {
            x.open(1, 3, true, false, false);
            x.write(0, 0x0807060504030201L, 8);
            x.open(1, 2, false, false, false);
            x.seek(0, 2);
            x.seek(1, 3);
        };
        Check.changesNothing("Bad", "Bad", history, x -> x.read(0, 9));
        Check.changesNothing("Refused", "Refused", history, x -> x.read(1, 8));
    }
}
