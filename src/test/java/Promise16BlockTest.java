/** Promise 16, the boundary cases of block. */
public final class Promise16BlockTest {
    public static void main(String[] args) {
        Cases.run(Promise16BlockTest.class);
    }

    static void promise16_aBlockBelow0IsBad() {
        JournaledFiles x = new JournaledFiles();
        for (boolean committed : new boolean[] {false, true}) {
            Check.bad("-1", () -> x.block(-1, 0, committed));
            Check.bad("-1, the last byte", () -> x.block(-1, 15, committed));
            Check.bad("the least int", () -> x.block(Integer.MIN_VALUE, 0, committed));
        }
    }

    static void promise16_aBlockAbove39IsBad() {
        JournaledFiles x = new JournaledFiles();
        for (boolean committed : new boolean[] {false, true}) {
            Check.bad("40", () -> x.block(40, 0, committed));
            Check.bad("the greatest int", () -> x.block(Integer.MAX_VALUE, 0, committed));
        }
    }

    static void promise16_aByteBelow0IsBad() {
        JournaledFiles x = new JournaledFiles();
        for (boolean committed : new boolean[] {false, true}) {
            Check.bad("-1", () -> x.block(0, -1, committed));
            Check.bad("-1 of block 1", () -> x.block(1, -1, committed));
            Check.bad("the least int", () -> x.block(39, Integer.MIN_VALUE, committed));
        }
    }

    static void promise16_aByteAbove15IsBad() {
        JournaledFiles x = new JournaledFiles();
        for (boolean committed : new boolean[] {false, true}) {
            Check.bad("16", () -> x.block(0, 16, committed));
            Check.bad("16 of the last block", () -> x.block(39, 16, committed));
            Check.bad("the greatest int", () -> x.block(0, Integer.MAX_VALUE, committed));
        }
    }

    static void promise16_theFirstByteOfTheFirstBlock() {
        JournaledFiles x = new JournaledFiles();
        Check.due("THE STATE", x.block(0, 0, false), 255);
        Check.due("COMMITTED", x.block(0, 0, true), 255);
    }

    static void promise16_theLastByteOfTheLastBlock() {
        JournaledFiles x = Given.fullDisk();
        x.open(8, 2, false, false, false);
        x.seek(0, 31);
        x.write(0, 0xFE, 1);
        Check.due("THE STATE", x.block(39, 15, false), 0xFE);
        Check.due("COMMITTED", x.block(39, 15, true), 0);
        x.commit();
        Check.due("COMMITTED then", x.block(39, 15, true), 0xFE);
    }

    static void promise16_theFirstAndTheLastByteOfABlock() {
        JournaledFiles x = Given.openFile(32);
        Check.due("block 10, byte 0", x.block(10, 0, false), 1);
        Check.due("block 10, byte 15", x.block(10, 15, false), 16);
        Check.due("block 11, byte 0", x.block(11, 0, false), 17);
        Check.due("block 11, byte 15", x.block(11, 15, false), 32);
    }

    static void promise16_bytesAre0To255() {
        JournaledFiles x = Given.openFile();
        x.write(0, 0x80FF7F00L, 4);
        int[] bytes = {0x00, 0x7F, 0xFF, 0x80};
        for (int i = 0; i < bytes.length; i++) {
            Check.due("THE STATE, byte " + i, x.block(10, i, false), bytes[i]);
        }
        x.commit();
        for (int i = 0; i < bytes.length; i++) {
            Check.due("COMMITTED, byte " + i, x.block(10, i, true), bytes[i]);
        }
    }

    static void promise16_theStateAndCommittedAreTold() {
        JournaledFiles x = Given.openFile(1);
        x.commit();
        x.seek(0, 0);
        x.write(0, 0xAB, 1);
        Check.due("THE STATE", x.block(10, 0, false), 0xAB);
        Check.due("COMMITTED", x.block(10, 0, true), 1);
        x.crash();
        Check.due("THE STATE after a crash", x.block(10, 0, false), 1);
    }

    static void promise16_lookingChangesNothing() {
        Trace.History history = x -> {
            x.open(1, 3, true, false, false);
            x.write(0, 0x0807060504030201L, 8);
        };
        Check.changesNothing("a byte", "nothing", history, x -> x.block(10, 0, true));
        Check.changesNothing("Bad", "Bad", history, x -> x.block(40, 0, true));
    }
}
