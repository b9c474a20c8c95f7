import java.util.ArrayList;
import java.util.List;
import java.util.Random;
import java.util.function.Function;
import java.util.function.Supplier;

/**
 * All promises: runs of calls, ordinary and wild, on the class and on the model, with a fixed seed. Each object is
 * asked 512 times at the most: what stands at the end of a run is asked of other objects on which the same was done.
 */
public final class ModelTest {
    private static final int RUNS = 3000;
    private static final int MOST_CALLS = 512;
    private static final int MOST_PLAYED = 420;
    private static final int[] WILD = {
        -1, Integer.MIN_VALUE, Integer.MAX_VALUE, 100, 200, 201, 31, 50, 51, 12, 60, -2, 1 << 20, 256, 1000};

    private final Random random;
    private final int played;
    private final int arrivals;
    private final ParcelSorter sorter = new ParcelSorter();
    private final Model model = new Model();
    private final List<Function<ParcelSorter, Object>> calls = new ArrayList<>();
    private final StringBuilder story = new StringBuilder();
    private ParcelSorter probe;
    private int asked = MOST_CALLS;

    private ModelTest(long seed) {
        random = new Random(seed);
        played = 20 + random.nextInt(MOST_PLAYED - 19);
        arrivals = 20 + random.nextInt(40);
    }

    public static void main(String[] args) {
        long first = args.length > 0 ? Long.parseLong(args[0]) : 1;
        long last = args.length > 1 ? Long.parseLong(args[1]) : RUNS;
        int[] seen = new int[22];
        for (long seed = first; seed <= last; seed++) {
            ModelTest test = new ModelTest(seed);
            test.play(seed);
            test.look(seen);
        }
        // a run that never comes to these cases would prove nothing
        String[] cases = {"0", "1", "2", "3", "4", "5", "6", "", "", "", "", "", "12", "13", "14",
            "verdict 0", "verdict 1", "verdict 2", "verdict 3", "two spoilt chutes", "60 parcels", "5 plans"};
        for (int i = 0; i < cases.length; i++) {
            Check.yes("seen: reason or " + cases[i], cases[i].isEmpty() || seen[i] > 0);
        }
        Check.end();
    }

    private void play(long seed) {
        if (seed % 10 != 0) {
            begin();
        }
        while (calls.size() < played) {
            call();
        }
        compareAll("seed " + seed + ", ");
    }

    private void look(int[] seen) {
        for (int i = 0; i < model.world.parcels.size(); i++) {
            int reason = model.parcel(i, 8);
            int verdict = model.parcel(i, 10);
            if (reason >= 0) {
                seen[reason]++;
            }
            if (verdict >= 0) {
                seen[15 + verdict]++;
            }
            if (Integer.bitCount(model.parcel(i, 11)) > 1) {
                seen[19]++;
            }
        }
        seen[20] += model.count(5) == 60 ? 1 : 0;
        seen[21] += model.count(4) == 5 ? 1 : 0;
    }

    // ---- calls

    private void begin() {
        int places = 12 + random.nextInt(random.nextInt(19) + 1);
        both("build " + places, x -> x.build(places), () -> model.build(places));
        for (int i = random.nextInt(3) + 1; i > 0; i--) {
            addStation();
        }
        for (int i = random.nextInt(8) + 1; i > 0; i--) {
            addChute();
        }
        for (int i = random.nextInt(4); i > 0; i--) {
            addPlan(goodText());
        }
    }

    private void call() {
        if (random.nextInt(100) < arrivals) {
            arrive();
            return;
        }
        int kind = random.nextInt(100);
        if (kind < 45) {
            run();
        } else if (kind < 50) {
            addPlan(random.nextInt(4) == 0 ? spoiled(goodText()) : goodText());
        } else if (kind < 60) {
            int chute = number(model.world.chutes.size());
            boolean isClosed = random.nextInt(3) == 0;
            both("setClosed " + chute, x -> x.setClosed(chute, isClosed) ? 1 : 0,
                () -> model.setClosed(chute, isClosed) ? 1 : 0);
        } else if (kind < 68) {
            int chute = number(model.world.chutes.size());
            both("clear " + chute, x -> x.clear(chute), () -> model.clear(chute));
        } else if (kind < 83) {
            look();
        } else {
            rare(kind);
        }
    }

    private void rare(int kind) {
        switch (kind) {
            case 83: case 84: addStation(); break;
            case 85: case 86: addChute(); break;
            case 87: case 88: case 89: case 90: case 91:
                both("undo", x -> x.undo(), () -> model.undo());
                break;
            case 92: case 93:
                both("saveSnapshot", x -> x.saveSnapshot(), () -> model.saveSnapshot());
                break;
            case 94:
                both("restoreSnapshot", x -> x.restoreSnapshot(), () -> model.restoreSnapshot());
                break;
            case 95:
                if (random.nextInt(8) == 0) {
                    int places = random.nextInt(3) == 0 ? wild(12) : 12 + random.nextInt(19);
                    both("build " + places, x -> x.build(places), () -> model.build(places));
                }
                break;
            case 96: case 97:
                int plan = number(model.world.plans.size());
                both("write " + plan, x -> x.write(plan), () -> model.write(plan));
                break;
            default:
                feed((char) (random.nextInt(2) == 0 ? random.nextInt(65536) : "@0:1=0x*-;,".charAt(random.nextInt(11))));
        }
    }

    private void addStation() {
        int place = wild(random.nextInt(model.world.places + 1));
        both("addStation " + place, x -> x.addStation(place), () -> model.addStation(place));
    }

    private void addChute() {
        int place = wild(random.nextInt(model.world.places + 1));
        int capacity = wild(1 + random.nextInt(random.nextBoolean() ? 3 : 20));
        int gap = wild(random.nextInt(6));
        int limit = wild(10 + random.nextInt(41));
        int clearing = wild(1 + random.nextInt(9));
        int swap = wild(random.nextInt(10));
        both("addChute " + place + " " + capacity + " " + gap + " " + limit + " " + clearing + " " + swap,
            x -> x.addChute(place, capacity, gap, limit, clearing, swap),
            () -> model.addChute(place, capacity, gap, limit, clearing, swap));
    }

    private void arrive() {
        int station = number(model.world.stations.size());
        int destination = wild(random.nextInt(100));
        int weight = wild(1 + random.nextInt(50));
        int condition = wild(Math.max(0, random.nextInt(5) - 2));
        both("arrive " + station + " " + destination + " " + weight + " " + condition,
            x -> x.arrive(station, destination, weight, condition),
            () -> model.arrive(station, destination, weight, condition));
    }

    private void run() {
        int ticks = wild(1 + random.nextInt(random.nextInt(8) == 0 ? 100 : 6));
        both("run " + ticks, x -> x.run(ticks), () -> model.run(ticks));
    }

    /** Questions that look ahead, and questions with arguments that do not come from the state. */
    private void look() {
        int parcel = number(model.world.parcels.size());
        int ticks = wild(1 + random.nextInt(200));
        boolean isTick = random.nextBoolean();
        int tick = wild(random.nextInt(100));
        int destination = wild(random.nextInt(100));
        int i = wild(random.nextInt(5) - 1);
        int what = wild(random.nextInt(18));
        switch (random.nextInt(12)) {
            case 0: case 1:
                both("foresee " + parcel + " " + ticks, x -> x.foresee(parcel, ticks, isTick),
                    () -> model.foresee(parcel, ticks, isTick));
                break;
            case 2: both("untilEmpty " + ticks, x -> x.untilEmpty(ticks), () -> model.untilEmpty(ticks)); break;
            case 3:
                both("route " + tick + " " + destination + " " + i, x -> x.route(tick, destination, i),
                    () -> model.route(tick, destination, i));
                break;
            case 4: both("find", x -> x.find(destination, i), () -> model.find(destination, i)); break;
            case 5: both("parcel", x -> x.parcel(parcel, what), () -> model.parcel(parcel, what)); break;
            case 6: both("chute", x -> x.chute(i, what), () -> model.chute(i, what)); break;
            case 7: both("station", x -> x.station(i, what), () -> model.station(i, what)); break;
            case 8: both("plan", x -> x.plan(i, what), () -> model.plan(i, what)); break;
            case 9: both("ledger", x -> x.ledger(tick, what), () -> model.ledger(tick, what)); break;
            case 10: both("count", x -> x.count(what), () -> model.count(what)); break;
            default:
                both("carried", x -> x.carried(tick), () -> model.carried(tick));
                both("paper", x -> (int) x.paper(tick), () -> (int) model.paper(tick));
        }
    }

    // ---- plans

    private void feed(char character) {
        both("feed " + (int) character, x -> x.feed(character), () -> model.feed(character));
    }

    private void addPlan(String text) {
        for (int i = 0; i < text.length(); i++) {
            feed(text.charAt(i));
        }
        both("addPlan " + text, x -> x.addPlan(), () -> model.addPlan());
    }

    private String goodText() {
        int near = random.nextInt(3) == 0 ? random.nextInt(200) : model.world.time + random.nextInt(20);
        StringBuilder text = new StringBuilder("@").append(zeros(near)).append(':');
        int rules = 1 + random.nextInt(random.nextInt(8) + 1);
        for (int i = 0; i < rules; i++) {
            text.append(i == 0 ? "" : ";").append(range()).append('=').append(chutes());
        }
        text.append('x').append(aChute());
        if (random.nextBoolean()) {
            text.append('*').append(random.nextInt(4));
        }
        return text.length() > 80 ? text.substring(0, 80) : text.toString();
    }

    private String range() {
        int first = random.nextInt(100);
        int width = random.nextInt(60);
        if (random.nextInt(20) == 0) {
            return zeros(first + width) + "-" + zeros(first);
        }
        return width < 6 ? zeros(first) : zeros(first / 2) + "-" + zeros(Math.min(99, first / 2 + width));
    }

    private String zeros(int number) {
        String text = "" + number;
        return random.nextInt(6) == 0 && text.length() < 4 ? "0" + text : text;
    }

    private String chutes() {
        StringBuilder text = new StringBuilder().append(aChute());
        for (int i = random.nextInt(3); i > 0; i--) {
            char more = aChute();
            if (text.indexOf("" + more) < 0 || random.nextInt(30) == 0) {
                text.append(',').append(more);
            }
        }
        return text.toString();
    }

    private char aChute() {
        int chutes = Math.max(1, model.world.chutes.size());
        return (char) ('0' + random.nextInt(random.nextInt(40) == 0 ? 8 : Math.min(8, chutes)));
    }

    private String spoiled(String text) {
        int at = random.nextInt(text.length());
        String sign = "" + "@0:1=2x3*4-5;6,789 ".charAt(random.nextInt(19));
        switch (random.nextInt(4)) {
            case 0: return text.substring(0, at);
            case 1: return text.substring(0, at) + sign + text.substring(at + 1);
            case 2: return text.length() < 80 ? text.substring(0, at) + sign + text.substring(at) : text;
            default: return text.substring(0, at) + text.substring(at + 1);
        }
    }

    // ---- arguments

    private int number(int length) {
        return random.nextInt(30) == 0 ? wild(length) : random.nextInt(Math.max(1, length));
    }

    private int wild(int ordinary) {
        return random.nextInt(60) == 0 ? WILD[random.nextInt(WILD.length)] : ordinary;
    }

    // ---- comparing

    private static String answer(Supplier<Object> call) {
        try {
            return "" + call.get();
        } catch (RuntimeException e) {
            return e.getClass().getName();
        }
    }

    /** A call of the run, on the class and on the model; none any more once the run has all that it may have. */
    private void both(String what, Function<ParcelSorter, Object> got, Supplier<Object> due) {
        if (calls.size() < played) {
            story.append(what).append('\n');
            calls.add(got);
            same(what, answer(due), answer(() -> got.apply(sorter)));
        }
    }

    private void same(String what, String due, String got) {
        Check.same(what, due, got);
        if (!due.equals(got)) {
            System.out.println("after:\n" + story);
            Check.end();
        }
    }

    /** Questions about the end of the run, all to an object that has calls left for them. */
    private void ask(String what, int questions, Function<ParcelSorter, Object> got, Supplier<Object> due) {
        if (asked + questions > MOST_CALLS) {
            probe = new ParcelSorter();
            for (Function<ParcelSorter, Object> call : calls) {
                answer(() -> call.apply(probe));
            }
            asked = calls.size();
        }
        asked += questions;
        same(what, answer(due), answer(() -> got.apply(probe)));
    }

    private void compareAll(String at) {
        for (int w = 0; w <= 16; w++) {
            int what = w;
            ask(at + "count " + w, 1, x -> x.count(what), () -> model.count(what));
        }
        for (int p = 0; p < model.world.parcels.size(); p++) {
            int parcel = p;
            for (int w = 0; w < 12; w++) {
                int what = w;
                ask(at + "parcel " + p + " " + w, 1, x -> x.parcel(parcel, what), () -> model.parcel(parcel, what));
            }
            int destination = model.parcel(p, 0);
            int serial = model.parcel(p, 1);
            ask(at + "find", 1, x -> x.find(destination, serial), () -> parcel);
        }
        compareStations(at);
        for (int p = 0; p < model.world.places; p++) {
            int place = p;
            ask(at + "carried " + p, 1, x -> x.carried(place), () -> model.carried(place));
        }
        for (int i = 0; i < model.world.ledger.size(); i++) {
            int entry = i;
            for (int w = 0; w < 4; w++) {
                int what = w;
                ask(at + "ledger " + i + " " + w, 1, x -> x.ledger(entry, what), () -> model.ledger(entry, what));
            }
        }
        comparePlans(at);
        ask(at + "mean", 1, x -> x.meanRounds(), () -> model.meanRounds());
        ask(at + "audit", 1, x -> x.audit(), () -> true);
    }

    private void compareStations(String at) {
        for (int i = 0; i < model.world.chutes.size(); i++) {
            int chute = i;
            for (int w = 0; w < 12; w++) {
                int what = w;
                ask(at + "chute " + i + " " + w, 1, x -> x.chute(chute, what), () -> model.chute(chute, what));
            }
        }
        for (int i = 0; i < model.world.stations.size(); i++) {
            int station = i;
            for (int w = 0; w < 4; w++) {
                int what = w;
                ask(at + "station " + i + " " + w, 1, x -> x.station(station, what), () -> model.station(station, what));
            }
        }
    }

    private void comparePlans(String at) {
        String paper = model.paper;
        ask(at + "paper", paper.length(), x -> Check.paper(x, paper.length()), () -> paper);
        ask(at + "behind the paper", 1, x -> (int) x.paper(paper.length()), () -> (int) model.paper(paper.length()));
        for (int i = 0; i < model.world.plans.size(); i++) {
            int plan = i;
            for (int w = 0; w < 5; w++) {
                int what = w;
                ask(at + "plan " + i + " " + w, 1, x -> x.plan(plan, what), () -> model.plan(plan, what));
            }
            model.write(i);
            String text = model.paper;
            ask(at + "write " + i, 1 + text.length(), x -> Check.written(x, plan), () -> text);
        }
    }
}
