/** Promise 17, the boundary cases of count. */
public final class Promise17CountTest {
    public static void main(String[] args) {
        Cases.run(Promise17CountTest.class);
    }

    static void promise17_below0ItIsMinus1() {
        JournaledFiles x = new JournaledFiles();
        Check.due("-1", x.count(-1), -1);
        Check.due("the least int", x.count(Integer.MIN_VALUE), -1);
    }

    static void promise17_above6ItIsMinus1() {
        JournaledFiles x = new JournaledFiles();
        Check.due("7", x.count(7), -1);
        Check.due("the greatest int", x.count(Integer.MAX_VALUE), -1);
    }

    static void promise17_freeBlocksFrom31To0() {
        JournaledFiles x = new JournaledFiles();
        Check.due("most", x.count(0), 31);
        x.open(1, 2, true, false, false);
        Check.due("one less", x.count(0), 30);
        x.remove(1);
        Check.due("most again", x.count(0), 31);
        Check.due("one", Given.almostFullDisk().count(0), 1);
        Check.due("none", Given.fullDisk().count(0), 0);
    }

    static void promise17_freeInodesFrom11To0() {
        JournaledFiles x = new JournaledFiles();
        for (int name = 1; name <= 11; name++) {
            Check.due("before " + name, x.count(1), 12 - name);
            x.directory(name);
        }
        Check.due("none", x.count(1), 0);
    }

    static void promise17_openHandlesFrom0To6() {
        JournaledFiles x = new JournaledFiles();
        for (int handle = 0; handle < 6; handle++) {
            Check.due("before " + handle, x.count(2), handle);
            x.open(0, 4, false, false, false);
        }
        Check.due("all", x.count(2), 6);
        x.close(3);
        Check.due("one less", x.count(2), 5);
    }

    static void promise17_differingBlocksFrom0On() {
        JournaledFiles x = new JournaledFiles();
        Check.due("none", x.count(3), 0);
        x.directory(1);
        Check.due("the map, INODES 0 and 1, the root's block", x.count(3), 3);
        x.directory(2);
        Check.due("INODE 2", x.count(3), 4);
        x.directory(3);
        Check.due("INODE 3 is in the same block", x.count(3), 4);
        x.commit();
        Check.due("none", x.count(3), 0);
        x.remove(3);
        x.directory(3);
        Check.due("only a GENERATION", x.count(3), 1);
    }

    static void promise17_differingByTheFirstAndTheLastByteOfABlock() {
        for (int p : new int[] {0, 15}) {
            JournaledFiles x = Given.openFile(16);
            x.commit();
            x.seek(0, p);
            x.write(0, 0xAB, 1);
            Check.due("byte " + p, x.count(3), 1);
        }
    }

    static void promise17_differingByTheLastBlock() {
        JournaledFiles x = Given.fullDisk();
        x.commit();
        x.open(8, 2, false, false, false);
        x.seek(0, 31);
        x.write(0, 0xAB, 1);
        Check.due("block 39", x.count(3), 1);
    }

    static void promise17_differingByAFreedBlock() {
        JournaledFiles x = Given.openFile(16);
        x.commit();
        x.truncate(1, 0);
        Check.due("the map, INODE 1, the freed block", x.count(3), 3);
        JournaledFiles y = Given.openFile();
        y.truncate(1, 16);
        y.commit();
        y.truncate(1, 0);
        Check.due("one of 0s alone does not", y.count(3), 2);
    }

    static void promise17_writesDoneSoFar() {
        JournaledFiles x = new JournaledFiles();
        Check.due("none", x.count(4), 0);
        x.directory(1);
        Check.due("none without a commit", x.count(4), 0);
        x.commit();
        Check.due("seven", x.count(4), 7);
        x.commit();
        Check.due("no more", x.count(4), 7);
        x.crash();
        Check.due("they stay counted", x.count(4), 7);
        x.directory(2);
        x.cutPower(1);
        Check.refused("cut", x::commit);
        Check.due("the one that is cut isn't done", x.count(4), 7);
    }

    static void promise17_timesThatPowerWentOff() {
        JournaledFiles x = new JournaledFiles();
        Check.due("none", x.count(5), 0);
        x.crash();
        Check.due("by a crash", x.count(5), 1);
        x.directory(1);
        x.cutPower(1);
        Check.due("not yet", x.count(5), 1);
        Check.refused("cut", x::commit);
        Check.due("by a cut", x.count(5), 2);
        x.directory(1);
        x.cutPower(7);
        Check.refused("cut", x::commit);
        Check.due("by a cut behind the mark", x.count(5), 3);
    }

    static void promise17_staleHandlesFrom0To6() {
        JournaledFiles x = new JournaledFiles();
        for (int name = 1; name <= 6; name++) {
            x.open(name, 2, true, false, false);
        }
        for (int name = 1; name <= 6; name++) {
            Check.due("before " + name, x.count(6), name - 1);
            x.remove(name);
        }
        Check.due("all", x.count(6), 6);
        Check.due("all are open", x.count(2), 6);
    }

    static void promise17_aClosedHandleIsNotStale() {
        JournaledFiles x = Given.openFile();
        x.close(0);
        x.remove(1);
        Check.due("closed before", x.count(6), 0);
        x.open(1, 2, true, false, false);
        x.remove(1);
        Check.due("open", x.count(6), 1);
        x.close(0);
        Check.due("closed after", x.count(6), 0);
    }

    static void promise17_aStaleHandleStaysStaleWhenTheInodeIsUsedAgain() {
        JournaledFiles x = Given.openFile();
        x.remove(1);
        Check.due("free", x.count(6), 1);
        Given.file(x, 1, 0);
        Check.due("another GENERATION", x.count(6), 1);
        x.remove(1);
        x.directory(1);
        Check.due("another KIND", x.count(6), 1);
    }

    static void promise17_lookingChangesNothing() {
        Trace.History history = x -> {
            x.open(1, 3, true, false, false);
            x.write(0, 0x0807060504030201L, 8);
            x.cutPower(30);
        };
        for (int what = -1; what <= 7; what++) {
            int w = what;
            Check.changesNothing("count " + w, "nothing", history, x -> x.count(w));
        }
    }
}
