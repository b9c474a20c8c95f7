import java.util.ArrayList;
import java.util.IdentityHashMap;
import java.util.List;
import java.util.Map;
import java.util.function.Consumer;
import java.util.function.Function;
import java.util.function.Supplier;

/**
 * Whether a call leaves a sorter as it was: a sorter that was called and its twin that was not must answer the same
 * from then on, whichever way they go. Each is asked but a part of it all, so that it stays below 512 calls.
 */
final class Twin {
    private static final List<Consumer<ParcelSorter>> WAYS = new ArrayList<>();
    private static final List<Function<ParcelSorter, String>> PARTS = new ArrayList<>();
    private static final Map<Supplier<ParcelSorter>, String> LOOKS = new IdentityHashMap<>();

    static {
        WAYS.add(x -> { });
        for (int i = 1; i <= 9; i++) {
            int undone = i;
            WAYS.add(x -> undo(x, undone));
        }
        WAYS.add(x -> x.run(1));
        WAYS.add(x -> x.run(40));
        WAYS.add(x -> x.restoreSnapshot());
        WAYS.add(x -> finishInput(x));
        PARTS.add(x -> counts(x) + stations(x) + chutes(x));
        PARTS.add(x -> paper(x) + " mean " + answer(x, y -> y.meanRounds()) + " audit " + x.audit());
        PARTS.add(x -> plans(x));
        for (int i = 0; i < 60; i += 12) {
            int first = i;
            PARTS.add(x -> parcels(x, first, first + 12));
        }
        PARTS.add(x -> ledger(x));
        PARTS.add(x -> carried(x) + " feed " + answer(x, y -> (int) y.feed('@')) + answer(x, y -> y.restoreSnapshot()));
    }

    /** The call throws the very exception that is due, and nothing has changed by it. */
    static void refused(String what, Class<?> due, Supplier<ParcelSorter> scene, Consumer<ParcelSorter> call) {
        ParcelSorter x = scene.get();
        Check.refuses(what, due, () -> call.accept(x));
        unchanged(what, scene, call);
    }

    static void unchanged(String what, Supplier<ParcelSorter> scene, Consumer<ParcelSorter> call) {
        same(what + " changes nothing", LOOKS.computeIfAbsent(scene, it -> look(it, x -> { })), look(scene, call));
    }

    /** After the call the sorter is as one that was made in the other way. */
    static void becomes(String what, Supplier<ParcelSorter> other, Supplier<ParcelSorter> scene,
            Consumer<ParcelSorter> call) {
        same(what, look(other, x -> { }), look(scene, call));
    }

    private static void same(String what, String due, String got) {
        int i = 0;
        while (i < Math.min(due.length(), got.length()) && due.charAt(i) == got.charAt(i)) {
            i++;
        }
        int from = Math.max(0, i - 60);
        Check.same(what, due.substring(from, Math.min(due.length(), i + 60)),
            got.substring(from, Math.min(got.length(), i + 60)));
    }

    /** All that can be asked of a sorter, each part of it of one that was made for it. */
    static String everything(Supplier<ParcelSorter> scene) {
        StringBuilder text = new StringBuilder();
        for (Function<ParcelSorter, String> part : PARTS) {
            text.append('\n').append(part.apply(scene.get()));
        }
        return text.toString();
    }

    private static String look(Supplier<ParcelSorter> scene, Consumer<ParcelSorter> call) {
        StringBuilder text = new StringBuilder();
        for (int way = 0; way < WAYS.size(); way++) {
            Consumer<ParcelSorter> go = WAYS.get(way);
            for (Function<ParcelSorter, String> part : PARTS) {
                ParcelSorter x = scene.get();
                after(x, call);
                text.append("\nway ").append(way).append(after(x, go)).append(part.apply(x));
            }
        }
        return text.toString();
    }

    private static String after(ParcelSorter x, Consumer<ParcelSorter> call) {
        try {
            call.accept(x);
            return ": ";
        } catch (RuntimeException e) {
            return " " + e.getClass().getName() + ": ";
        }
    }

    private static String answer(ParcelSorter x, Function<ParcelSorter, Object> question) {
        try {
            return " " + question.apply(x);
        } catch (RuntimeException e) {
            return " " + e.getClass().getName();
        }
    }

    private static void undo(ParcelSorter x, int times) {
        for (int i = 0; i < times; i++) {
            x.undo();
        }
    }

    /** Makes a plan of an input that ends with a destination, or takes the input as it is if it is full. */
    private static void finishInput(ParcelSorter x) {
        for (char sign : "=0x0".toCharArray()) {
            after(x, y -> y.feed(sign));
        }
        x.addPlan();
    }

    private static String counts(ParcelSorter x) {
        StringBuilder text = new StringBuilder("counts");
        for (int what = 0; what <= 16; what++) {
            text.append(' ').append(x.count(what));
        }
        return text.toString();
    }

    private static String stations(ParcelSorter x) {
        StringBuilder text = new StringBuilder();
        for (int i = 0, stations = x.count(2); i < stations; i++) {
            text.append(" station");
            for (int what = 0; what <= 3; what++) {
                text.append(' ').append(x.station(i, what));
            }
        }
        return text.toString();
    }

    private static String chutes(ParcelSorter x) {
        StringBuilder text = new StringBuilder();
        for (int i = 0, chutes = x.count(3); i < chutes; i++) {
            text.append(" chute");
            for (int what = 0; what <= 11; what++) {
                text.append(' ').append(x.chute(i, what));
            }
        }
        return text.toString();
    }

    private static String paper(ParcelSorter x) {
        StringBuilder text = new StringBuilder("paper ");
        try {
            for (int i = 0; i < 100; i++) {
                text.append(x.paper(i));
            }
        } catch (IndexOutOfBoundsException e) {
            text.append(" of this length");
        }
        return text.toString();
    }

    private static String plans(ParcelSorter x) {
        StringBuilder text = new StringBuilder();
        for (int i = 0, plans = x.count(4); i < plans; i++) {
            text.append(" plan ").append(Check.written(x, i)).append(" without ").append(x.plan(i, 4));
        }
        return text.toString();
    }

    private static String parcels(ParcelSorter x, int first, int end) {
        StringBuilder text = new StringBuilder();
        for (int i = first, parcels = x.count(5); i < Math.min(end, parcels); i++) {
            text.append(" parcel");
            for (int what = 0; what <= 11; what++) {
                text.append(' ').append(x.parcel(i, what));
            }
        }
        return text.toString();
    }

    private static String ledger(ParcelSorter x) {
        StringBuilder text = new StringBuilder();
        for (int i = 0, dropped = x.count(8); i < dropped; i++) {
            text.append(" entry");
            for (int what = 0; what <= 3; what++) {
                text.append(' ').append(x.ledger(i, what));
            }
        }
        return text.toString();
    }

    private static String carried(ParcelSorter x) {
        StringBuilder text = new StringBuilder("carried");
        for (int i = 0, places = x.count(1); i < places; i++) {
            int place = i;
            text.append(answer(x, y -> y.carried(place)));
        }
        return text.toString();
    }
}
