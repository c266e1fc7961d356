/** Promise 7, the boundary cases of seek. */
public final class Promise07SeekTest {
    public static void main(String[] args) {
        Cases.run(Promise07SeekTest.class);
    }

    static void promise07_aHandleOutOfRangeIsBad() {
        JournaledFiles x = Given.openFile();
        for (int handle : Given.NO_HANDLES) {
            Check.bad("HANDLE " + handle, () -> x.seek(handle, 0));
        }
    }

    static void promise07_aPlaceBelow0IsBad() {
        JournaledFiles x = Given.openFile();
        Check.bad("-1", () -> x.seek(0, -1));
        Check.bad("the least int", () -> x.seek(0, Integer.MIN_VALUE));
    }

    static void promise07_aPlaceAbove64IsBad() {
        JournaledFiles x = Given.openFile();
        Check.bad("65", () -> x.seek(0, 65));
        Check.bad("the greatest int", () -> x.seek(0, Integer.MAX_VALUE));
    }

    static void promise07_badComesBeforeRefused() {
        JournaledFiles x = new JournaledFiles();
        Check.bad("65, not open", () -> x.seek(0, 65));
        Check.bad("-1, not open", () -> x.seek(5, -1));
    }

    static void promise07_place0IsFine() {
        JournaledFiles x = Given.openFile(8);
        x.read(0, 8);
        x.seek(0, 0);
        Check.due("byte 0", x.read(0, 1), 1);
    }

    static void promise07_place64IsFine() {
        JournaledFiles x = Given.openFile(64);
        Check.fine("64", () -> x.seek(0, 64));
        Check.due("nothing is there", x.read(0, 8), 0);
        Check.full("nor can be", () -> x.write(0, 1, 1));
    }

    static void promise07_place63IsTheLastByte() {
        JournaledFiles x = Given.openFile(64);
        x.seek(0, 63);
        Check.due("byte 63", x.read(0, 8), 64);
    }

    static void promise07_behindTheSizeTheFileGetsNoLonger() {
        JournaledFiles x = Given.openFile(3);
        x.commit();
        x.seek(0, 64);
        Check.due("SIZE", x.stat(1, 1), 3);
        Check.due("no block differs", x.count(3), 0);
    }

    static void promise07_aHandleThatIsNotOpenIsRefused() {
        JournaledFiles x = Given.openFile();
        x.close(0);
        for (int handle = 0; handle < 6; handle++) {
            int h = handle;
            Check.refused("HANDLE " + h, () -> x.seek(h, 0));
        }
    }

    static void promise07_aStaleHandleIsRefused() {
        JournaledFiles x = Given.openFile();
        x.remove(1);
        Check.refused("the INODE is free", () -> x.seek(0, 0));
        x.open(1, 2, true, false, false);
        Check.refused("the INODE has another GENERATION", () -> x.seek(0, 0));
        x.remove(1);
        x.directory(1);
        Check.refused("a directory has the INODE", () -> x.seek(0, 0));
    }

    static void promise07_mode4IsRefused() {
        JournaledFiles x = Given.openFile();
        x.directory(2);
        x.open(0, 4, false, false, false);
        x.next(1);
        Check.refused("MODE 4", () -> x.seek(1, 0));
        Check.due("POSITION stayed", x.next(1), 2);
    }

    static void promise07_modes1To3AreFine() {
        JournaledFiles x = Given.openFile(8);
        x.open(1, 1, false, false, false);
        x.open(1, 2, false, false, false);
        Check.fine("MODE 1", () -> x.seek(1, 5));
        Check.fine("MODE 2", () -> x.seek(2, 5));
        Check.fine("MODE 3", () -> x.seek(0, 6));
        x.write(2, 0xAB, 1);
        Check.due("MODE 1 is at 5", x.read(1, 1), 0xAB);
        Check.due("MODE 3 is at 6", x.read(0, 1), 7);
    }

    static void promise07_whatThrowsHasChangedNothing() {
        Trace.History history = x -> {
            x.open(1, 3, true, false, false);
            x.write(0, 0x0807060504030201L, 8);
            x.directory(2);
            x.open(0, 4, false, false, false);
            x.seek(0, 2);
            x.next(1);
        };
        Check.changesNothing("Bad", "Bad", history, x -> x.seek(0, 65));
        Check.changesNothing("Refused", "Refused", history, x -> x.seek(1, 0));
    }
}
