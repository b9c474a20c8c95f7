/** What the tests share: the sentence that is held, comparing, expecting an exception, and feeding a text. */
final class Check {
    interface Call {
        void go();
    }

    static final Class<?> RANGE = IllegalArgumentException.class;
    static final Class<?> STATE = IllegalStateException.class;
    static final Class<?> INDEX = IndexOutOfBoundsException.class;
    static final Class<?> NONE = java.util.NoSuchElementException.class;
    static final Class<?> IMPOSSIBLE = UnsupportedOperationException.class;
    static final Class<?> ARITHMETIC = ArithmeticException.class;

    private static int checks = 0;
    private static int wrong = 0;
    private static String held = "";

    /** Says which sentence of the document the checks that follow hold; some words of it are enough. */
    static void holds(String part, String words) {
        held = "[" + part + ": " + words + "] ";
        yes("the document says so", Document.hasIn(part, words));
    }

    static void same(String what, long due, long got) {
        checks++;
        if (due != got) {
            report(what + " answered " + got + ", due is " + due);
        }
    }

    static void same(String what, double due, double got) {
        checks++;
        if (due != got) {
            report(what + " answered " + got + ", due is " + due);
        }
    }

    static void same(String what, String due, String got) {
        checks++;
        if (!due.equals(got)) {
            report(what + " answered " + got + ", due is " + due);
        }
    }

    static void yes(String what, boolean got) {
        same(what, 1, got ? 1 : 0);
    }

    static void no(String what, boolean got) {
        same(what, 0, got ? 1 : 0);
    }

    /** The exact class, because the machine's own exceptions are subclasses of the documented ones. */
    static void refuses(String what, Class<?> due, Call call) {
        checks++;
        try {
            call.go();
        } catch (RuntimeException e) {
            if (e.getClass() != due) {
                report(what + " threw " + e.getClass().getName() + ", due is " + due.getName());
            }
            return;
        }
        report(what + " threw nothing, due is " + due.getName());
    }

    /** Feeds a text and answers what addPlan does. */
    static int addPlan(ParcelSorter sorter, String text) {
        feed(sorter, text);
        return sorter.addPlan();
    }

    static void feed(ParcelSorter sorter, String text) {
        for (int i = 0; i < text.length(); i++) {
            sorter.feed(text.charAt(i));
        }
    }

    static String written(ParcelSorter sorter, int plan) {
        return paper(sorter, sorter.write(plan));
    }

    static String paper(ParcelSorter sorter, int length) {
        StringBuilder text = new StringBuilder();
        for (int i = 0; i < length; i++) {
            text.append(sorter.paper(i));
        }
        return text.toString();
    }

    /** All that can be asked of a sorter, but for the paper. */
    static String everything(ParcelSorter sorter) {
        StringBuilder text = new StringBuilder();
        for (int what = 0; what <= 16; what++) {
            text.append(sorter.count(what)).append(' ');
        }
        for (int i = 0; i < sorter.count(2); i++) {
            text.append("\nstation");
            for (int what = 0; what <= 3; what++) {
                text.append(' ').append(sorter.station(i, what));
            }
        }
        for (int i = 0; i < sorter.count(3); i++) {
            text.append("\nchute");
            for (int what = 0; what <= 11; what++) {
                text.append(' ').append(sorter.chute(i, what));
            }
        }
        for (int i = 0; i < sorter.count(4); i++) {
            text.append("\nplan ").append(written(sorter, i));
        }
        for (int i = 0; i < sorter.count(5); i++) {
            text.append("\nparcel");
            for (int what = 0; what <= 11; what++) {
                text.append(' ').append(sorter.parcel(i, what));
            }
        }
        text.append("\nledger");
        for (int i = 0; i < sorter.count(8); i++) {
            text.append(' ').append(sorter.ledger(i, 0));
        }
        return text.toString();
    }

    private static void report(String line) {
        wrong++;
        System.out.println(held + line);
    }

    static void end() {
        System.out.println(checks + " checks, " + wrong + " wrong");
        if (wrong != 0) {
            System.exit(1);
        }
    }
}
