import java.util.function.LongSupplier;

/**
 * All that can be seen of an object after a history of calls. An object is good for 512 calls, so the history is
 * lived through by several objects, each of which tells a part; it may have some 150 calls.
 */
final class Trace {
    interface History {
        void happenTo(JournaledFiles x);
    }

    private Trace() {
    }

    static String of(History history) {
        StringBuilder text = new StringBuilder();
        for (int first : new int[] {0, 20}) {
            text.append(blocks(after(history), first, first + 19, false)).append('\n');
            text.append(blocks(after(history), first, first + 19, true)).append('\n');
        }
        tellHandles(after(history), text);
        tellCut(after(history), text);
        return text.toString();
    }

    private static JournaledFiles after(History history) {
        JournaledFiles x = new JournaledFiles();
        history.happenTo(x);
        return x;
    }

    private static String blocks(JournaledFiles x, int first, int last, boolean committed) {
        StringBuilder text = new StringBuilder();
        for (int b = first; b <= last; b++) {
            for (int i = 0; i < 16; i++) {
                text.append(String.format("%02x", x.block(b, i, committed)));
            }
        }
        return text.toString();
    }

    /** Where a handle stands shows by what it reads and lists, and by where its byte comes to. */
    private static void tellHandles(JournaledFiles x, StringBuilder text) {
        for (int what = 0; what <= 6; what++) {
            text.append("count ").append(x.count(what)).append('\n');
        }
        for (int handle = 0; handle < 6; handle++) {
            int h = handle;
            text.append(h).append(" next ").append(answer(() -> x.next(h)));
            text.append(" read ").append(answer(() -> x.read(h, 1)));
            text.append(" write ").append(Check.thrownBy(() -> x.write(h, 0x5A, 1))).append('\n');
        }
        text.append(blocks(x, 1, 20, false)).append('\n');
        for (int handle = 0; handle < 6; handle++) {
            int h = handle;
            text.append(h).append(" close ").append(Check.thrownBy(() -> x.close(h))).append('\n');
        }
    }

    /** A cut that is set comes within 100 writes, if there is room for a directory that comes and goes. */
    private static void tellCut(JournaledFiles x, StringBuilder text) {
        for (int k = 0; k < 34; k++) {
            text.append(answer(() -> x.directory(0xEE))).append(' ').append(answer(x::commit)).append(' ');
            text.append(Check.thrownBy(() -> x.remove(0xEE))).append(' ').append(answer(x::commit)).append(' ');
        }
        text.append(x.count(4)).append(' ').append(x.count(5)).append('\n');
    }

    private static String answer(LongSupplier call) {
        long[] answer = {0};
        String thrown = Check.thrownBy(() -> answer[0] = call.getAsLong());
        return thrown.equals("nothing") ? Long.toString(answer[0]) : thrown;
    }
}
