/** Promises 1, 16 and 17: a new object, block, count. */
public final class NewObjectTest {
    public static void main(String[] args) {
        newDiskByBytes(false);
        newDiskByBytes(true);
        newObjectByCalls();
        blockRanges();
        blockOfStateAndOfCommitted();
        counts();
        countsOfNothing();
        Check.end();
    }

    private static void newDiskByBytes(boolean committed) {
        JournaledFiles low = new JournaledFiles();
        JournaledFiles high = new JournaledFiles();
        for (int b = 0; b < 40; b++) {
            for (int i = 0; i < 16; i++) {
                int got = (b < 20 ? low : high).block(b, i, committed);
                Check.due("new block(" + b + ", " + i + ", " + committed + ")", got, newByte(b, i));
            }
        }
    }

    private static int newByte(int b, int i) {
        int[] map = {255, 1};
        int[] root = {2, 0, 1, 1};
        if (b == 0 && i < map.length) {
            return map[i];
        }
        return b == 1 && i < root.length ? root[i] : 0;
    }

    private static void newObjectByCalls() {
        JournaledFiles x = new JournaledFiles();
        int[] counts = {31, 11, 0, 0, 0, 0, 0};
        for (int what = 0; what < counts.length; what++) {
            Check.due("new count(" + what + ")", x.count(what), counts[what]);
        }
        int[] root = {2, 0, 0, 1, 0};
        for (int what = 0; what < root.length; what++) {
            Check.due("new stat(0, " + what + ")", x.stat(0, what), root[what]);
        }
        Check.due("nothing to commit", x.commit(), 0);
        x.crash();
        Check.due("the root outlasts a crash", x.stat(0, 0), 2);
        Check.due("with its generation", x.stat(0, 3), 1);
    }

    private static void blockRanges() {
        JournaledFiles x = new JournaledFiles();
        int[] badBlocks = {-1, 40, Integer.MIN_VALUE, Integer.MAX_VALUE};
        int[] badBytes = {-1, 16, Integer.MIN_VALUE, Integer.MAX_VALUE};
        for (boolean committed : new boolean[] {false, true}) {
            for (int b : badBlocks) {
                Check.bad("block " + b, () -> x.block(b, 0, committed));
            }
            for (int i : badBytes) {
                Check.bad("byte " + i, () -> x.block(0, i, committed));
            }
            Check.due("last byte", x.block(39, 15, committed), 0);
        }
    }

    private static void blockOfStateAndOfCommitted() {
        JournaledFiles x = new JournaledFiles();
        x.open(0xFF, 2, true, false, false);
        x.write(0, -1L, 8);
        Check.due("name in THE STATE", x.block(9, 0, false), 255);
        Check.due("byte of the file in THE STATE", x.block(10, 7, false), 255);
        Check.due("name not in COMMITTED", x.block(9, 0, true), 0);
        Check.due("byte not in COMMITTED", x.block(10, 7, true), 0);
        x.commit();
        Check.due("name in COMMITTED", x.block(9, 0, true), 255);
        Check.due("byte in COMMITTED", x.block(10, 7, true), 255);
        x.remove(0xFF);
        Check.due("freed in THE STATE", x.block(10, 7, false), 0);
        Check.due("still in COMMITTED", x.block(10, 7, true), 255);
    }

    private static void counts() {
        JournaledFiles x = new JournaledFiles();
        x.directory(1);
        x.open(0x0102, 3, true, false, false);
        x.write(0, 5, 8);
        x.open(1, 4, false, false, false);
        Check.due("free blocks", x.count(0), 28);
        Check.due("free inodes", x.count(1), 9);
        Check.due("open handles", x.count(2), 2);
        Check.due("differing blocks: map, inodes 0 and 1, inode 2, three new ones", x.count(3), 6);
        Check.due("no writes yet", x.count(4), 0);
        x.commit();
        Check.due("none differ", x.count(3), 0);
        Check.due("writes done", x.count(4), 13);
        Check.due("none stale", x.count(6), 0);
        x.remove(0x0102);
        Check.due("the file's handle is stale", x.count(6), 1);
        Check.due("and still open", x.count(2), 2);
        x.remove(1);
        Check.due("the directory's handle is stale, too", x.count(6), 2);
        x.close(0);
        Check.due("a closed one is not stale", x.count(6), 1);
        x.crash();
        Check.due("power went off", x.count(5), 1);
        Check.due("no handle is open", x.count(2), 0);
        Check.due("nor stale", x.count(6), 0);
        Check.due("writes stay counted", x.count(4), 13);
    }

    private static void countsOfNothing() {
        JournaledFiles x = new JournaledFiles();
        for (int what : new int[] {-1, 7, 8, Integer.MIN_VALUE, Integer.MAX_VALUE}) {
            Check.due("count(" + what + ")", x.count(what), -1);
        }
    }
}
