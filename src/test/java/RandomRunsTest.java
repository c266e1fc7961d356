import java.util.Arrays;
import java.util.Map;
import java.util.Random;
import java.util.TreeMap;

/** All promises: runs of random calls, from fixed seeds, must answer as the plain model does. */
public final class RandomRunsTest {
    private static final int RUNS = 3000;
    private static final int CALLS = 160;
    private static final int CROWDED = 1;

    private static final String[] NAMES = {
        "directory", "open", "close", "write", "read", "seek", "next", "remove", "rename", "truncate", "stat",
        "commit", "cutPower", "crash", "block", "count",
    };
    /** How often each call comes, in turn for three kinds of runs: all alike, crowded disks, much power loss. */
    private static final int[][] WEIGHTS = {
        {5, 9, 3, 9, 6, 5, 4, 3, 7, 5, 4, 3, 2, 1, 2, 4},
        {5, 12, 7, 9, 2, 4, 2, 2, 9, 14, 2, 2, 1, 0, 1, 3},
        {4, 9, 2, 8, 3, 3, 2, 4, 5, 5, 2, 10, 9, 2, 2, 5},
    };

    private final Random random;
    private final int[] weights;
    private final int namesInUse;
    private final JournaledFiles files = new JournaledFiles();
    private final PlainModel model = new PlainModel();

    private RandomRunsTest(int seed) {
        random = new Random(seed);
        weights = WEIGHTS[seed % WEIGHTS.length];
        namesInUse = seed % 2 == 0 && seed % WEIGHTS.length != CROWDED ? 3 : 9;
    }

    public static void main(String[] args) {
        Map<String, Integer> seen = new TreeMap<>();
        for (int seed = 0; seed < RUNS; seed++) {
            RandomRunsTest run = new RandomRunsTest(seed);
            if (seed % WEIGHTS.length == CROWDED) {
                run.crowd(seed);
            }
            for (int k = 0; k < CALLS; k++) {
                seen.merge(run.randomCall(seed), 1, Integer::sum);
            }
            run.compareDisk(seed);
        }
        checkThatAllWasSeen(seen);
        Check.end();
    }

    /** Random calls alone hardly ever use up the blocks. */
    private void crowd(int seed) {
        oneCall(seed, "directory", 8);
        oneCall(seed, "directory", 9);
        for (int name : new int[] {0x01, 0xFF, 0x03, 0x04, 0x05, 0x06, 0x07, 0x0801, 0x0A}) {
            oneCall(seed, "open", name, 2, 1, 0, 0);
            oneCall(seed, "close", 0);
            oneCall(seed, "truncate", name, 45 + random.nextInt(20));
        }
    }

    private String randomCall(int seed) {
        String name = NAMES[pick(weights)];
        return oneCall(seed, name, argumentsFor(name));
    }

    private String oneCall(int seed, String name, long... arguments) {
        String want = model.call(name, arguments);
        Check.due("run " + seed + ": " + name + Arrays.toString(arguments), answer(name, arguments), want);
        return name + (Character.isLetter(want.charAt(0)) ? " " + want : " answers");
    }

    /** A quarter of what can be seen, a different one each time, since an object is good for 512 calls. */
    private void compareDisk(int seed) {
        boolean committed = seed / 2 % 2 == 1;
        int[] image = model.image(committed);
        int first = seed % 5 < 3 ? 0 : 20;
        for (int b = first; b < first + 20; b++) {
            for (int i = 0; i < 16; i++) {
                Check.due("run " + seed + ": block " + b + ", byte " + i + ", " + committed,
                        files.block(b, i, committed), image[16 * b + i]);
            }
        }
    }

    /** A run that never fills the disk, say, would test little: every way that a call can end has to come. */
    private static void checkThatAllWasSeen(Map<String, Integer> seen) {
        String[][] ends = {
            {"answers", "directory open close write read seek next remove rename truncate stat commit cutPower crash"
                + " block count"},
            {"Bad", "directory open close write read seek next remove rename truncate stat cutPower block"},
            {"Missing", "directory open remove rename truncate stat"},
            {"Refused", "directory open close write read seek next remove rename truncate commit"},
            {"Full", "directory open write rename truncate"},
        };
        for (String[] end : ends) {
            for (String name : end[1].split(" ")) {
                Check.due(name + " " + end[0] + " was seen", seen.containsKey(name + " " + end[0]) ? 1 : 0, 1);
            }
        }
    }

    private int pick(int[] weightOf) {
        int at = random.nextInt(Arrays.stream(weightOf).sum());
        int k = 0;
        while (at >= weightOf[k]) {
            at -= weightOf[k];
            k++;
        }
        return k;
    }

    private long[] argumentsFor(String name) {
        switch (name) {
            case "directory":
            case "remove": return new long[] {path()};
            case "open": return new long[] {path(), number(1, 4), often(), random.nextInt(2), rarely()};
            case "close":
            case "next": return new long[] {number(0, 5)};
            case "write": return new long[] {number(0, 5), random.nextLong(), number(0, 8)};
            case "read": return new long[] {number(0, 5), number(0, 8)};
            case "seek": return new long[] {number(0, 5), number(0, 64)};
            case "rename": return new long[] {path(), path()};
            case "truncate": return new long[] {path(), number(0, 64)};
            case "stat": return new long[] {path(), number(0, 4)};
            case "cutPower": return new long[] {number(0, random.nextInt(4) == 0 ? 100 : 20)};
            case "block": return new long[] {number(0, 39), number(0, 15), random.nextInt(2)};
            case "count": return new long[] {number(0, 6)};
            default: return new long[0];
        }
    }

    private int often() {
        return random.nextInt(5) == 0 ? 0 : 1;
    }

    private int rarely() {
        return random.nextInt(6) == 0 ? 1 : 0;
    }

    /** Mostly within the bounds, now and then just or far outside. */
    private int number(int least, int most) {
        switch (random.nextInt(40)) {
            case 0: return least - 1;
            case 1: return most + 1;
            case 2: return random.nextInt(4) == 0 ? random.nextInt() : least;
            case 3: return most;
            default: return least + random.nextInt(most - least + 1);
        }
    }

    private int path() {
        if (random.nextInt(60) == 0) {
            return random.nextInt();
        }
        int length = new int[] {0, 1, 1, 1, 1, 1, 1, 2, 2, 2, 2, 3, 3, 4}[random.nextInt(14)];
        int path = 0;
        for (int k = 0; k < length; k++) {
            path = path << 8 | name();
        }
        return path;
    }

    private int name() {
        if (random.nextInt(60) == 0) {
            return random.nextInt(256);
        }
        int name = 1 + random.nextInt(namesInUse);
        return name == 2 ? 0xFF : name;
    }

    private String answer(String name, long[] a) {
        long[] answer = {0};
        String thrown = Check.thrownBy(() -> answer[0] = call(name, a));
        return thrown.equals("nothing") ? Long.toString(answer[0]) : thrown;
    }

    private long call(String name, long[] a) {
        switch (name) {
            case "directory": return files.directory((int) a[0]);
            case "open": return files.open((int) a[0], (int) a[1], a[2] == 1, a[3] == 1, a[4] == 1);
            case "read": return files.read((int) a[0], (int) a[1]);
            case "next": return files.next((int) a[0]);
            case "stat": return files.stat((int) a[0], (int) a[1]);
            case "commit": return files.commit();
            case "block": return files.block((int) a[0], (int) a[1], a[2] == 1);
            case "count": return files.count((int) a[0]);
            default:
                callWithoutAnswer(name, a);
                return 0;
        }
    }

    private void callWithoutAnswer(String name, long[] a) {
        switch (name) {
            case "close": files.close((int) a[0]); break;
            case "write": files.write((int) a[0], a[1], (int) a[2]); break;
            case "seek": files.seek((int) a[0], (int) a[1]); break;
            case "remove": files.remove((int) a[0]); break;
            case "rename": files.rename((int) a[0], (int) a[1]); break;
            case "truncate": files.truncate((int) a[0], (int) a[1]); break;
            case "cutPower": files.cutPower((int) a[0]); break;
            default: files.crash(); break;
        }
    }
}
