/** Promise 8, the boundary cases of next. */
public final class Promise08NextTest {
    public static void main(String[] args) {
        Cases.run(Promise08NextTest.class);
    }

    /** Handle 0 lists the root, which has the files from first to last. */
    private static JournaledFiles listing(int first, int last) {
        JournaledFiles x = new JournaledFiles();
        Given.files(x, first, last);
        x.open(0, 4, false, false, false);
        return x;
    }

    static void promise08_aHandleOutOfRangeIsBad() {
        JournaledFiles x = listing(1, 1);
        for (int handle : Given.NO_HANDLES) {
            Check.bad("HANDLE " + handle, () -> x.next(handle));
        }
    }

    static void promise08_anEmptyDirectoryHasNone() {
        JournaledFiles x = new JournaledFiles();
        x.open(0, 4, false, false, false);
        Check.due("none", x.next(0), 0);
    }

    static void promise08_atTheEndItIs0() {
        JournaledFiles x = listing(1, 2);
        Check.due("first", x.next(0), 1);
        Check.due("last", x.next(0), 2);
        Check.due("none", x.next(0), 0);
    }

    static void promise08_atTheEndPositionStays() {
        JournaledFiles x = listing(1, 2);
        x.next(0);
        x.next(0);
        x.next(0);
        x.next(0);
        x.directory(3);
        x.directory(4);
        Check.due("the one that came there", x.next(0), 3);
        Check.due("and behind it", x.next(0), 4);
    }

    static void promise08_positionStaysInAnEmptyDirectory() {
        JournaledFiles x = new JournaledFiles();
        x.open(0, 4, false, false, false);
        x.next(0);
        x.next(0);
        x.directory(7);
        Check.due("ENTRY 0", x.next(0), 7);
    }

    static void promise08_positionBehindTheLastEntryIs0AndStays() {
        JournaledFiles x = listing(1, 3);
        x.next(0);
        x.next(0);
        x.next(0);
        x.remove(1);
        x.remove(2);
        Check.due("one ENTRY is left", x.next(0), 0);
        x.directory(4);
        x.directory(5);
        Check.due("three again", x.next(0), 0);
        x.directory(6);
        Check.due("ENTRY 3", x.next(0), 6);
    }

    static void promise08_theLeastAndTheGreatestName() {
        JournaledFiles x = new JournaledFiles();
        x.directory(255);
        x.directory(1);
        x.open(0, 4, false, false, false);
        Check.due("255", x.next(0), 255);
        Check.due("1", x.next(0), 1);
    }

    static void promise08_overABlocksEdge() {
        JournaledFiles x = listing(1, 11);
        for (int name = 1; name <= 11; name++) {
            Check.due("in the order in which they came", x.next(0), name);
        }
        Check.due("behind the eleventh", x.next(0), 0);
    }

    static void promise08_exactlyOneBlockOfEntries() {
        JournaledFiles x = listing(1, 8);
        for (int name = 1; name <= 8; name++) {
            Check.due("NAME", x.next(0), name);
        }
        Check.due("behind the eighth", x.next(0), 0);
    }

    static void promise08_theLastEntryInARemovedOnesPlace() {
        JournaledFiles x = listing(1, 4);
        Check.due("ENTRY 0", x.next(0), 1);
        x.remove(2);
        Check.due("ENTRY 1", x.next(0), 4);
        Check.due("ENTRY 2", x.next(0), 3);
        Check.due("no ENTRY 3", x.next(0), 0);
    }

    static void promise08_theLastEntryBeforePositionIsNotSeen() {
        JournaledFiles x = listing(1, 3);
        x.next(0);
        x.next(0);
        x.remove(1);
        Check.due("3 stands first now", x.next(0), 0);
    }

    static void promise08_directoriesAndFilesAreListedAlike() {
        JournaledFiles x = listing(1, 1);
        x.directory(2);
        Check.due("a file", x.next(0), 1);
        Check.due("a directory", x.next(0), 2);
    }

    static void promise08_aHandleThatIsNotOpenIsRefused() {
        JournaledFiles x = listing(1, 1);
        x.close(0);
        for (int handle = 0; handle < 6; handle++) {
            int h = handle;
            Check.refused("HANDLE " + h, () -> x.next(h));
        }
    }

    static void promise08_modes1To3AreRefused() {
        JournaledFiles x = Given.openFile(8);
        x.open(1, 1, false, false, false);
        x.open(1, 2, false, false, false);
        Check.refused("MODE 1", () -> x.next(1));
        Check.refused("MODE 2", () -> x.next(2));
        Check.refused("MODE 3", () -> x.next(0));
    }

    static void promise08_aStaleHandleIsRefused() {
        JournaledFiles x = new JournaledFiles();
        x.directory(1);
        x.open(1, 4, false, false, false);
        x.remove(1);
        Check.refused("the INODE is free", () -> x.next(0));
        x.directory(1);
        x.directory(0x0102);
        Check.refused("the INODE has another GENERATION", () -> x.next(0));
    }

    static void promise08_aStaleHandleIsRefusedWhereAFileIsNow() {
        JournaledFiles x = new JournaledFiles();
        x.directory(1);
        x.open(1, 4, false, false, false);
        x.remove(1);
        Given.file(x, 1, 8);
        Check.due("the same INODE", x.stat(1, 2), 1);
        Check.refused("next", () -> x.next(0));
    }

    static void promise08_aRenamedDirectoryIsListedOn() {
        JournaledFiles x = new JournaledFiles();
        x.directory(1);
        x.directory(0x0102);
        x.open(1, 4, false, false, false);
        x.rename(1, 3);
        Check.due("ENTRY 0", x.next(0), 2);
    }

    static void promise08_whatThrowsHasChangedNothing() {
        Trace.History history = x -> {
            x.open(1, 3, true, false, false);
            x.write(0, 0x0807060504030201L, 8);
            x.open(0, 4, false, false, false);
            x.seek(0, 2);
        };
        Check.changesNothing("Bad", "Bad", history, x -> x.next(6));
        Check.changesNothing("Refused", "Refused", history, x -> x.next(0));
    }
}
