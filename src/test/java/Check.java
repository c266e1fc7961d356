import java.util.NoSuchElementException;

/** Counts and prints the answers that are not the ones that are due. */
final class Check {
    interface Deed {
        void happen();
    }

    private static int checked = 0;
    private static int wrong = 0;
    private static String about = "";

    private Check() {
    }

    /** What is printed from now on is about the case of this name. */
    static void about(String name) {
        about = name + ": ";
    }

    static int checked() {
        return checked;
    }

    static int wrong() {
        return wrong;
    }

    static void due(String what, long got, long want) {
        due(what, Long.toString(got), Long.toString(want));
    }

    static void due(String what, String got, String want) {
        checked++;
        if (!want.equals(got)) {
            wrong++;
            System.out.println(about + what + ": answered " + got + ", due is " + want);
        }
    }

    static void bad(String what, Deed deed) {
        due(what, thrownBy(deed), "Bad");
    }

    static void missing(String what, Deed deed) {
        due(what, thrownBy(deed), "Missing");
    }

    static void refused(String what, Deed deed) {
        due(what, thrownBy(deed), "Refused");
    }

    static void full(String what, Deed deed) {
        due(what, thrownBy(deed), "Full");
    }

    static void fine(String what, Deed deed) {
        due(what, thrownBy(deed), "nothing");
    }

    /** The call throws what the term means, and nothing that can be seen is another than without the call. */
    static void changesNothing(String what, String term, Trace.History history, Trace.History call) {
        JournaledFiles x = new JournaledFiles();
        history.happenTo(x);
        due(what, thrownBy(() -> call.happenTo(x)), term);
        String with = Trace.of(y -> {
            history.happenTo(y);
            thrownBy(() -> call.happenTo(y));
        });
        due(what + ", what is seen after it", with, Trace.of(history));
    }

    /** The bytes of THE STATE's blocks from first to last, in hexadecimal digits, a space between blocks. */
    static String blocks(JournaledFiles x, int first, int last) {
        StringBuilder text = new StringBuilder();
        for (int b = first; b <= last; b++) {
            text.append(b == first ? "" : " ");
            for (int i = 0; i < 16; i++) {
                text.append(String.format("%02x", x.block(b, i, false)));
            }
        }
        return text.toString();
    }

    static String thrownBy(Deed deed) {
        try {
            deed.happen();
            return "nothing";
        } catch (RuntimeException e) {
            return termFor(e);
        }
    }

    private static String termFor(RuntimeException e) {
        if (e.getClass() == IllegalArgumentException.class) {
            return "Bad";
        }
        if (e.getClass() == NoSuchElementException.class) {
            return "Missing";
        }
        if (e.getClass() == IllegalStateException.class) {
            return "Refused";
        }
        if (e.getClass() == UnsupportedOperationException.class) {
            return "Full";
        }
        return e.toString();
    }

    /** To be the last call of a test's main method. */
    static void end() {
        System.out.println(checked + " answers, " + wrong + " not as due");
        if (wrong != 0) {
            System.exit(1);
        }
    }
}
