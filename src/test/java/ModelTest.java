import java.util.Random;
import java.util.function.Supplier;

/** All promises: long runs of calls, ordinary and wild, on the class and on the model, with a fixed seed. */
public final class ModelTest {
    private static final int RUNS = 400;
    private static final int CALLS = 300;
    private static final int[] WILD = {
        -1, Integer.MIN_VALUE, Integer.MAX_VALUE, 100, 200, 201, 31, 50, 51, 12, 60, -2, 1 << 20, 256, 1000};

    private final Random random;
    private final ParcelSorter sorter = new ParcelSorter();
    private final Model model = new Model();
    private final StringBuilder story = new StringBuilder();

    private ModelTest(long seed) {
        random = new Random(seed);
    }

    public static void main(String[] args) {
        long first = args.length > 0 ? Long.parseLong(args[0]) : 1;
        long last = args.length > 1 ? Long.parseLong(args[1]) : RUNS;
        int[] seen = new int[20];
        for (long seed = first; seed <= last; seed++) {
            ModelTest test = new ModelTest(seed);
            test.play(seed);
            test.look(seen);
        }
        // a run that never comes to these cases would prove nothing
        String[] cases = {"0", "1", "2", "3", "4", "5", "6", "", "", "", "", "", "12", "13", "14",
            "verdict 0", "verdict 1", "verdict 2", "verdict 3", "two spoilt chutes"};
        for (int i = 0; i < cases.length; i++) {
            Check.yes("seen: reason or " + cases[i], cases[i].isEmpty() || seen[i] > 0);
        }
        Check.end();
    }

    private void play(long seed) {
        if (seed % 10 != 0) {
            begin();
        }
        for (int i = 0; i < CALLS; i++) {
            call();
            compareCounts(seed);
            if (i % 10 == 0 || i == CALLS - 1) {
                compareAll(seed);
            }
        }
    }

    private void look(int[] seen) {
        for (int i = 0; i < model.world.parcels.size(); i++) {
            int reason = model.parcel(i, 8);
            int verdict = model.parcel(i, 10);
            if (reason >= 0) {
                seen[reason]++;
            }
            if (verdict >= 0) {
                seen[15 + verdict]++;
            }
            if (Integer.bitCount(model.parcel(i, 11)) > 1) {
                seen[19]++;
            }
        }
    }

    // ---- calls

    private void begin() {
        int places = 12 + random.nextInt(random.nextInt(19) + 1);
        both("build " + places, () -> sorter.build(places), () -> model.build(places));
        for (int i = random.nextInt(3) + 1; i > 0; i--) {
            addStation();
        }
        for (int i = random.nextInt(8) + 1; i > 0; i--) {
            addChute();
        }
        for (int i = random.nextInt(4); i > 0; i--) {
            addPlan(goodText());
        }
    }

    private void call() {
        int kind = random.nextInt(100);
        if (kind < 26) {
            arrive();
        } else if (kind < 58) {
            run();
        } else if (kind < 66) {
            addPlan(random.nextInt(4) == 0 ? spoiled(goodText()) : goodText());
        } else if (kind < 74) {
            int chute = number(model.world.chutes.size());
            boolean isClosed = random.nextInt(3) == 0;
            both("setClosed " + chute, () -> sorter.setClosed(chute, isClosed) ? 1 : 0,
                () -> model.setClosed(chute, isClosed) ? 1 : 0);
        } else if (kind < 80) {
            int chute = number(model.world.chutes.size());
            both("clear " + chute, () -> sorter.clear(chute), () -> model.clear(chute));
        } else if (kind < 83) {
            look();
        } else {
            rare(kind);
        }
    }

    private void rare(int kind) {
        switch (kind) {
            case 83: case 84: addStation(); break;
            case 85: case 86: addChute(); break;
            case 87: case 88: case 89: case 90: case 91:
                both("undo", () -> sorter.undo(), () -> model.undo());
                break;
            case 92: case 93:
                both("saveSnapshot", () -> sorter.saveSnapshot(), () -> model.saveSnapshot());
                break;
            case 94:
                both("restoreSnapshot", () -> sorter.restoreSnapshot(), () -> model.restoreSnapshot());
                break;
            case 95:
                if (random.nextInt(8) == 0) {
                    int places = random.nextInt(3) == 0 ? wild(12) : 12 + random.nextInt(19);
                    both("build " + places, () -> sorter.build(places), () -> model.build(places));
                }
                break;
            case 96: case 97:
                int plan = number(model.world.plans.size());
                both("write " + plan, () -> sorter.write(plan), () -> model.write(plan));
                break;
            default:
                feed((char) (random.nextInt(2) == 0 ? random.nextInt(65536) : "@0:1=0x*-;,".charAt(random.nextInt(11))));
        }
    }

    private void addStation() {
        int place = wild(random.nextInt(model.world.places + 1));
        both("addStation " + place, () -> sorter.addStation(place), () -> model.addStation(place));
    }

    private void addChute() {
        int place = wild(random.nextInt(model.world.places + 1));
        int capacity = wild(1 + random.nextInt(random.nextBoolean() ? 3 : 20));
        int gap = wild(random.nextInt(6));
        int limit = wild(10 + random.nextInt(41));
        int clearing = wild(1 + random.nextInt(9));
        int swap = wild(random.nextInt(10));
        both("addChute " + place + " " + capacity + " " + gap + " " + limit + " " + clearing + " " + swap,
            () -> sorter.addChute(place, capacity, gap, limit, clearing, swap),
            () -> model.addChute(place, capacity, gap, limit, clearing, swap));
    }

    private void arrive() {
        int station = number(model.world.stations.size());
        int destination = wild(random.nextInt(100));
        int weight = wild(1 + random.nextInt(50));
        int condition = wild(Math.max(0, random.nextInt(5) - 2));
        both("arrive " + station + " " + destination + " " + weight + " " + condition,
            () -> sorter.arrive(station, destination, weight, condition),
            () -> model.arrive(station, destination, weight, condition));
    }

    private void run() {
        int ticks = wild(1 + random.nextInt(random.nextInt(8) == 0 ? 100 : 6));
        both("run " + ticks, () -> sorter.run(ticks), () -> model.run(ticks));
    }

    /** Questions that look ahead, and questions with arguments that do not come from the state. */
    private void look() {
        int parcel = number(model.world.parcels.size());
        int ticks = wild(1 + random.nextInt(200));
        boolean isTick = random.nextBoolean();
        both("foresee " + parcel + " " + ticks, () -> sorter.foresee(parcel, ticks, isTick),
            () -> model.foresee(parcel, ticks, isTick));
        both("untilEmpty " + ticks, () -> sorter.untilEmpty(ticks), () -> model.untilEmpty(ticks));
        int tick = wild(random.nextInt(100));
        int destination = wild(random.nextInt(100));
        int i = wild(random.nextInt(5) - 1);
        both("route " + tick + " " + destination + " " + i, () -> sorter.route(tick, destination, i),
            () -> model.route(tick, destination, i));
        both("find", () -> sorter.find(destination, i), () -> model.find(destination, i));
        int what = wild(random.nextInt(18));
        both("parcel", () -> sorter.parcel(parcel, what), () -> model.parcel(parcel, what));
        both("chute", () -> sorter.chute(i, what), () -> model.chute(i, what));
        both("station", () -> sorter.station(i, what), () -> model.station(i, what));
        both("plan", () -> sorter.plan(i, what), () -> model.plan(i, what));
        both("ledger", () -> sorter.ledger(tick, what), () -> model.ledger(tick, what));
        both("count", () -> sorter.count(what), () -> model.count(what));
        both("carried", () -> sorter.carried(tick), () -> model.carried(tick));
        both("paper", () -> (int) sorter.paper(tick), () -> (int) model.paper(tick));
    }

    // ---- plans

    private void feed(char character) {
        both("feed " + (int) character, () -> sorter.feed(character), () -> model.feed(character));
    }

    private void addPlan(String text) {
        for (int i = 0; i < text.length(); i++) {
            feed(text.charAt(i));
        }
        both("addPlan " + text, () -> sorter.addPlan(), () -> model.addPlan());
    }

    private String goodText() {
        int near = random.nextInt(3) == 0 ? random.nextInt(200) : model.world.time + random.nextInt(20);
        StringBuilder text = new StringBuilder("@").append(zeros(near)).append(':');
        int rules = 1 + random.nextInt(random.nextInt(8) + 1);
        for (int i = 0; i < rules; i++) {
            text.append(i == 0 ? "" : ";").append(range()).append('=').append(chutes());
        }
        text.append('x').append(aChute());
        if (random.nextBoolean()) {
            text.append('*').append(random.nextInt(4));
        }
        return text.length() > 80 ? text.substring(0, 80) : text.toString();
    }

    private String range() {
        int first = random.nextInt(100);
        int width = random.nextInt(60);
        if (random.nextInt(20) == 0) {
            return zeros(first + width) + "-" + zeros(first);
        }
        return width < 6 ? zeros(first) : zeros(first / 2) + "-" + zeros(Math.min(99, first / 2 + width));
    }

    private String zeros(int number) {
        String text = "" + number;
        return random.nextInt(6) == 0 && text.length() < 4 ? "0" + text : text;
    }

    private String chutes() {
        StringBuilder text = new StringBuilder().append(aChute());
        for (int i = random.nextInt(3); i > 0; i--) {
            char more = aChute();
            if (text.indexOf("" + more) < 0 || random.nextInt(30) == 0) {
                text.append(',').append(more);
            }
        }
        return text.toString();
    }

    private char aChute() {
        int chutes = Math.max(1, model.world.chutes.size());
        return (char) ('0' + random.nextInt(random.nextInt(40) == 0 ? 8 : Math.min(8, chutes)));
    }

    private String spoiled(String text) {
        int at = random.nextInt(text.length());
        String sign = "" + "@0:1=2x3*4-5;6,789 ".charAt(random.nextInt(19));
        switch (random.nextInt(4)) {
            case 0: return text.substring(0, at);
            case 1: return text.substring(0, at) + sign + text.substring(at + 1);
            case 2: return text.length() < 80 ? text.substring(0, at) + sign + text.substring(at) : text;
            default: return text.substring(0, at) + text.substring(at + 1);
        }
    }

    // ---- arguments

    private int number(int length) {
        return random.nextInt(30) == 0 ? wild(length) : random.nextInt(Math.max(1, length));
    }

    private int wild(int ordinary) {
        return random.nextInt(60) == 0 ? WILD[random.nextInt(WILD.length)] : ordinary;
    }

    // ---- comparing

    private static String answer(Supplier<Integer> call) {
        try {
            return "" + call.get();
        } catch (RuntimeException e) {
            return e.getClass().getName();
        }
    }

    private void both(String what, Supplier<Integer> got, Supplier<Integer> due) {
        story.append(what).append('\n');
        same(what, answer(due), answer(got));
    }

    private void same(String what, String due, String got) {
        Check.same(what, due, got);
        if (!due.equals(got)) {
            System.out.println("after:\n" + story);
            Check.end();
        }
    }

    private void compareCounts(long seed) {
        for (int what = 0; what <= 16; what++) {
            same("seed " + seed + ", count " + what, "" + model.count(what), "" + sorter.count(what));
        }
    }

    private void compareAll(long seed) {
        String at = "seed " + seed + ", ";
        for (int i = 0; i < model.world.parcels.size(); i++) {
            for (int what = 0; what < 12; what++) {
                same(at + "parcel " + i + " " + what, "" + model.parcel(i, what), "" + sorter.parcel(i, what));
            }
            same(at + "find", "" + i, "" + sorter.find(sorter.parcel(i, 0), sorter.parcel(i, 1)));
        }
        for (int i = 0; i < model.world.chutes.size(); i++) {
            for (int what = 0; what < 12; what++) {
                same(at + "chute " + i + " " + what, "" + model.chute(i, what), "" + sorter.chute(i, what));
            }
        }
        for (int i = 0; i < model.world.stations.size(); i++) {
            for (int what = 0; what < 4; what++) {
                same(at + "station " + i + " " + what, "" + model.station(i, what), "" + sorter.station(i, what));
            }
        }
        for (int i = 0; i < model.world.places; i++) {
            int place = i;
            same(at + "carried " + i, answer(() -> model.carried(place)), answer(() -> sorter.carried(place)));
        }
        for (int i = 0; i < model.world.ledger.size(); i++) {
            for (int what = 0; what < 4; what++) {
                same(at + "ledger " + i + " " + what, "" + model.ledger(i, what), "" + sorter.ledger(i, what));
            }
        }
        comparePlans(at);
        same(at + "mean", answer(() -> (int) (1e6 * model.meanRounds())), answer(() -> (int) (1e6 * sorter.meanRounds())));
        same(at + "audit", "true", "" + sorter.audit());
    }

    private void comparePlans(String at) {
        for (int i = 0; i < model.world.plans.size(); i++) {
            for (int what = 0; what < 5; what++) {
                same(at + "plan " + i + " " + what, "" + model.plan(i, what), "" + sorter.plan(i, what));
            }
            int length = model.write(i);
            same(at + "write " + i, "" + length, "" + sorter.write(i));
            same(at + "paper", model.paper, Check.paper(sorter, length));
        }
    }
}
