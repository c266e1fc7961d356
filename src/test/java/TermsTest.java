/** The boundary cases that the document's 'Terms' name for all promises. */
public final class TermsTest {
    public static void main(String[] args) {
        Cases.run(TermsTest.class);
    }

    static void terms_mapHasABitForEachBlock() {
        JournaledFiles x = new JournaledFiles();
        Given.files(x, 1, 8);
        int[] bytes = {255, 3, 0, 0, 0};
        for (int b = 10; b < 40; b++) {
            int file = (b - 10) / 4 + 1;
            x.truncate(file, 16 * ((b - 10) % 4 + 1));
            bytes[b / 8] |= 1 << b % 8;
            Check.due("with block " + b, x.block(0, b / 8, false), bytes[b / 8]);
        }
        Check.due("the whole map", Check.blocks(x, 0, 0), "ffffffffff0000000000000000000000");
    }

    static void terms_mapBlocks0To8AreUsedAlways() {
        JournaledFiles x = Given.openFile(64);
        x.remove(1);
        Check.due("all others are free", Check.blocks(x, 0, 0), "ff010000000000000000000000000000");
    }

    static void terms_blocks7And8Are0Always() {
        JournaledFiles x = Given.fullDisk();
        x.commit();
        Check.due("THE STATE", Check.blocks(x, 7, 8), Given.ZEROS + " " + Given.ZEROS);
        for (int i = 0; i < 16; i++) {
            Check.due("COMMITTED", x.block(7, i, true) + x.block(8, i, true), 0);
        }
    }

    static void terms_inodesAreTwoToABlock() {
        JournaledFiles x = Given.noFreeInode();
        Check.due("block 1", Check.blocks(x, 1, 1), "02160101090a00000200010100000000");
        for (int b = 2; b <= 6; b++) {
            Check.due("block " + b, Check.blocks(x, b, b), "02000101000000000200010100000000");
        }
    }

    static void terms_theLastInodeIsInTheSecondHalfOfBlock6() {
        JournaledFiles x = new JournaledFiles();
        Given.files(x, 1, 10);
        Check.due("free", Check.blocks(x, 6, 6), "01000101000000000000000000000000");
        Given.file(x, 11, 1);
        Check.due("a file", Check.blocks(x, 6, 6), "0100010100000000010101010b000000");
    }

    static void terms_aFreeInodesLinksAre0() {
        JournaledFiles x = Given.openFile();
        Check.due("a file's", x.block(1, 8 + 2, false), 1);
        x.remove(1);
        Check.due("a free one's", x.block(1, 8 + 2, false), 0);
        x.directory(1);
        Check.due("a directory's", x.block(1, 8 + 2, false), 1);
    }

    static void terms_linksStay1WithEntriesAndRenames() {
        JournaledFiles x = new JournaledFiles();
        x.directory(1);
        x.directory(0x0102);
        x.rename(0x0102, 3);
        Check.due("the root's", x.block(1, 2, false), 1);
        Check.due("INODE 1", x.block(1, 8 + 2, false), 1);
        Check.due("INODE 2", x.block(2, 2, false), 1);
    }

    static void terms_theSizeIs64AtMost() {
        JournaledFiles x = Given.openFile(64);
        Check.due("INODE 1", Given.inode(x, 1), "014001010a0b0c0d");
    }

    static void terms_aFilesByteIsInItsBlockNumber() {
        JournaledFiles x = Given.openFile(64);
        for (int p : new int[] {0, 15, 16, 31, 32, 47, 48, 63}) {
            Check.due("byte " + p, x.block(10 + p / 16, p % 16, false), p + 1);
        }
    }

    static void terms_aFileHasTheBlocksOfItsBytesAndNoOthers() {
        int[] sizes = {0, 1, 16, 17, 32, 33, 48, 49, 64};
        String[] blocks = {"00000000", "0a000000", "0a000000", "0a0b0000", "0a0b0000", "0a0b0c00", "0a0b0c00",
            "0a0b0c0d", "0a0b0c0d"};
        for (int k = 0; k < sizes.length; k++) {
            JournaledFiles x = Given.openFile(sizes[k]);
            Check.due("SIZE " + sizes[k], Given.inode(x, 1).substring(8), blocks[k]);
        }
    }

    static void terms_whatIsBehindTheSizeIs0() {
        JournaledFiles x = Given.openFile(20);
        Check.due("bytes", Check.blocks(x, 11, 11), "11121314000000000000000000000000");
        x.truncate(1, 18);
        Check.due("bytes", Check.blocks(x, 11, 11), "11120000000000000000000000000000");
    }

    static void terms_anEntryIsANameAndAnInode() {
        JournaledFiles x = new JournaledFiles();
        x.directory(0xFF);
        x.directory(0xFF01);
        x.directory(0x80);
        Check.due("the root's", Check.blocks(x, 9, 9), "ff018003000000000000000000000000");
        Check.due("INODE 1's", Check.blocks(x, 10, 10), "01020000000000000000000000000000");
    }

    static void terms_theNinthEntryIsInASecondBlock() {
        JournaledFiles x = new JournaledFiles();
        Given.files(x, 1, 8);
        Check.due("eight", Given.inode(x, 0), "0210010109000000");
        Given.file(x, 9, 0);
        Check.due("nine", Given.inode(x, 0), "02120101090a0000");
        Check.due("ENTRIES", Check.blocks(x, 9, 10),
                "01010202030304040505060607070808 09090000000000000000000000000000");
    }

    static void terms_aRemovedEntryLeavesNothingBehind() {
        JournaledFiles x = new JournaledFiles();
        Given.files(x, 1, 3);
        x.remove(1);
        Check.due("ENTRIES", Check.blocks(x, 9, 9), "03030202000000000000000000000000");
        x.remove(2);
        Check.due("ENTRIES", Check.blocks(x, 9, 9), "03030000000000000000000000000000");
        x.remove(3);
        Check.due("ENTRIES", Check.blocks(x, 9, 9), Given.ZEROS);
    }

    static void terms_theSameNameInTwoDirectories() {
        JournaledFiles x = new JournaledFiles();
        x.directory(1);
        x.directory(0x0101);
        Given.file(x, 0x010101, 7);
        Check.due("/01", x.stat(1, 2), 1);
        Check.due("/01/01", x.stat(0x0101, 2), 2);
        Check.due("/01/01/01", x.stat(0x010101, 2), 3);
    }

    static void terms_newBlocksAreTheLeastFreeOnes() {
        JournaledFiles x = new JournaledFiles();
        Given.file(x, 1, 16);
        Given.file(x, 2, 16);
        Given.file(x, 3, 16);
        x.truncate(2, 0);
        x.truncate(1, 0);
        x.truncate(3, 64);
        Check.due("10 and 11 before 13", Given.inode(x, 3), "014001010c0a0b0d");
    }

    static void terms_theFirstNewBlockIs9AndTheLastIs39() {
        JournaledFiles x = Given.openFile();
        Check.due("the first", Given.inode(x, 0), "0202010109000000");
        JournaledFiles y = Given.fullDisk();
        Check.due("the last", Given.inode(y, 8), "0120010126270000");
    }

    static void terms_newInodesAreTheLeastFreeOnes() {
        JournaledFiles x = new JournaledFiles();
        Given.files(x, 1, 4);
        x.remove(3);
        x.remove(1);
        Given.file(x, 9, 0);
        Check.due("1 before 3", x.stat(9, 2), 1);
        Given.file(x, 10, 0);
        Check.due("3 before 5", x.stat(10, 2), 3);
        Given.file(x, 11, 0);
        Check.due("5", x.stat(11, 2), 5);
    }

    static void terms_aNewInodesFirstGenerationIs1() {
        JournaledFiles x = Given.noFreeInode();
        for (int name = 1; name <= 11; name++) {
            Check.due("INODE " + name, x.stat(name, 3), 1);
        }
    }

    /** The write at the end is the object's 512th call. */
    static void terms_aHandleOfGeneration0IsNotStale() {
        JournaledFiles x = new JournaledFiles();
        for (int k = 1; k <= 255; k++) {
            x.directory(1);
            x.remove(1);
        }
        x.open(1, 2, true, false, false);
        Check.fine("its HANDLE isn't STALE", () -> x.write(0, 1, 1));
    }

    static void terms_aFreedInodeKeepsItsGenerationAndAllElseOfItIs0() {
        JournaledFiles x = Given.openFile(64);
        x.remove(1);
        x.open(1, 2, true, false, false);
        x.truncate(1, 64);
        x.remove(1);
        Check.due("INODE 1", Given.inode(x, 1), "0000000200000000");
    }

    static void terms_aFreedInodesGenerationIsCommitted() {
        JournaledFiles x = new JournaledFiles();
        x.directory(1);
        x.remove(1);
        Check.due("it differs", x.count(3), 1);
        Check.due("writes", x.commit(), 3);
        x.crash();
        x.directory(1);
        Check.due("one more", x.stat(1, 3), 2);
    }

    static void terms_aFreedBlocksBytesBecome0() {
        JournaledFiles x = Given.openFile(64);
        x.truncate(1, 32);
        Check.due("by truncate", Check.blocks(x, 12, 13), Given.ZEROS + " " + Given.ZEROS);
        x.open(1, 2, false, false, true);
        Check.due("by open", Check.blocks(x, 10, 11), Given.ZEROS + " " + Given.ZEROS);
        x.write(1, -1, 8);
        x.remove(1);
        Check.due("by remove", Check.blocks(x, 9, 10), Given.ZEROS + " " + Given.ZEROS);
    }

    static void terms_aPathOf0IsTheRoot() {
        JournaledFiles x = Given.openFile();
        Check.due("INODE", x.stat(0, 2), 0);
        Check.due("HANDLE", x.open(0, 4, false, false, false), 1);
    }

    static void terms_aPathWith00BetweenNamesIsBad() {
        JournaledFiles x = new JournaledFiles();
        x.directory(1);
        x.directory(0x0102);
        for (int path : new int[] {0x010002, 0x01000002, 0x01000203, 0x01020003, 0xFF0001FF}) {
            Check.bad(Integer.toHexString(path), () -> x.stat(path, 0));
        }
    }

    static void terms_aPathThroughAFileIsMissing() {
        JournaledFiles x = new JournaledFiles();
        x.directory(1);
        Given.file(x, 0x0102, 64);
        Check.missing("directory", () -> x.directory(0x010203));
        Check.missing("open", () -> x.open(0x010203, 3, true, false, false));
        Check.missing("remove", () -> x.remove(0x010203));
        Check.missing("rename from", () -> x.rename(0x010203, 4));
        Check.missing("rename to", () -> x.rename(1, 0x010203));
        Check.missing("truncate", () -> x.truncate(0x010203, 0));
        Check.missing("stat", () -> x.stat(0x010203, 0));
    }

    static void terms_committedChangesByCommittingAlone() {
        JournaledFiles x = Given.openFile(64);
        x.directory(2);
        x.rename(1, 0x0201);
        x.truncate(0x0201, 5);
        x.remove(0x0201);
        x.close(0);
        for (int b = 1; b <= 12; b++) {
            for (int i = 0; i < 16; i++) {
                int due = b == 1 && i < 4 ? new int[] {2, 0, 1, 1}[i] : 0;
                Check.due("block " + b + ", byte " + i, x.block(b, i, true), due);
            }
        }
    }

    static void terms_staleWhenTheInodeIsFree() {
        JournaledFiles x = Given.openFile();
        Check.due("not yet", x.count(6), 0);
        x.remove(1);
        Check.due("STALE", x.count(6), 1);
    }

    static void terms_staleWhenTheInodeHasAnotherGeneration() {
        JournaledFiles x = Given.openFile();
        x.remove(1);
        x.open(1, 3, true, false, false);
        Check.due("the old one alone", x.count(6), 1);
        Check.refused("the old one", () -> x.read(0, 1));
        Check.fine("the new one", () -> x.read(1, 1));
    }

    static void terms_staleWhenAFileTookItsPlace() {
        JournaledFiles x = Given.openFile();
        Given.file(x, 2, 0);
        x.rename(2, 1);
        Check.due("STALE", x.count(6), 1);
    }

    static void terms_notStaleByRenameTruncateOrCommit() {
        JournaledFiles x = Given.openFile(8);
        x.open(0, 4, false, false, false);
        x.rename(1, 2);
        x.truncate(2, 0);
        x.open(2, 2, false, false, true);
        x.commit();
        Check.due("none", x.count(6), 0);
    }

    /** What a handle may do is looked at in THE STATE, not in COMMITTED. */
    static void terms_notStaleThoughNotCommitted() {
        JournaledFiles x = Given.openFile();
        Check.due("none", x.count(6), 0);
        x.commit();
        x.remove(1);
        Check.due("one", x.count(6), 1);
    }
}
