import java.util.ArrayList;
import java.util.Arrays;
import java.util.HashSet;
import java.util.List;
import java.util.NoSuchElementException;
import java.util.Set;
import java.util.TreeMap;
import java.util.regex.Pattern;

/**
 * The document once more, written without a look at the class: what undo and snapshots bring back is found by doing
 * all changes again from the start, and a text's fault by asking which of its beginnings some plan begins with.
 */
final class Model {
    interface Change {
        void apply(World world);
    }

    private static final Pattern PLAN = Pattern.compile(
        "@[0-9]{1,4}:R(;R){0,7}x[0-7](\\*[0-9])?".replace("R", "[0-9]{1,4}(-[0-9]{1,4})?=[0-7](,[0-7]){0,2}"));
    private static final String[] ENDS = {
        "", "@0:0=0x0", "0:0=0x0", ":0=0x0", "0=0x0", "0", "x0", "=0x0",
        "1x0", "2x0", "3x0", "4x0", "5x0", "6x0", "7x0", "0x0"};

    int startPlaces = 12;
    List<Change> changes = new ArrayList<>();
    int undoable;
    World world = new World(12);
    int savedPlaces = -1;
    List<Change> savedChanges;
    String input = "";
    String paper = "";

    // ---- replay

    private void change(Change change) {
        change.apply(world);
        changes.add(change);
        undoable = Math.min(8, undoable + 1);
    }

    private static World replay(int places, List<Change> changes) {
        World world = new World(places);
        for (Change change : changes) {
            change.apply(world);
        }
        return world;
    }

    int build(int places) {
        refuseRange(places < 12 || places > 30);
        int before = world.parcels.size();
        startPlaces = places;
        changes = new ArrayList<>();
        undoable = 0;
        world = new World(places);
        return before;
    }

    int undo() {
        if (undoable == 0) {
            throw new IllegalStateException();
        }
        changes.remove(changes.size() - 1);
        world = replay(startPlaces, changes);
        return --undoable;
    }

    int saveSnapshot() {
        savedPlaces = startPlaces;
        savedChanges = new ArrayList<>(changes);
        return world.time;
    }

    int restoreSnapshot() {
        if (savedPlaces < 0) {
            throw new IllegalStateException();
        }
        startPlaces = savedPlaces;
        changes = new ArrayList<>(savedChanges);
        undoable = 0;
        world = replay(startPlaces, changes);
        return world.time;
    }

    // ---- changes

    int addStation(int place) {
        refuseRange(place < 1 || place >= world.places || world.takenPlaces().contains(place));
        refuseState(world.stations.size() == 3);
        change(w -> w.stations.add(new Station(place)));
        return world.stations.size() - 1;
    }

    int addChute(int place, int capacity, int gap, int limit, int clearing, int swap) {
        refuseRange(place < 1 || place >= world.places || world.takenPlaces().contains(place));
        refuseRange(capacity < 1 || capacity > 20 || gap < 0 || gap > 5 || limit < 1 || limit > 50);
        refuseRange(clearing < 1 || clearing > 9 || swap < 0 || swap > 9);
        refuseState(world.chutes.size() == 8);
        change(w -> w.chutes.add(new Chute(new int[] {place, capacity, gap, limit, clearing, swap})));
        return world.chutes.size() - 1;
    }

    int feed(char character) {
        refuseState(input.length() == 80);
        input += character;
        return input.length();
    }

    int addPlan() {
        String text = input;
        input = "";
        if (!isPlan(text)) {
            return -100 - fault(text);
        }
        Plan plan = new Plan(text);
        if (!plan.isPossible(world.chutes.size())) {
            throw new UnsupportedOperationException();
        }
        refuseState(world.plans.size() == 5 && !world.plans.containsKey(plan.tick));
        change(w -> w.plans.put(plan.tick, plan));
        return world.plans.size();
    }

    int arrive(int station, int destination, int weight, int condition) {
        refuseIndex(station, world.stations.size());
        refuseRange(destination < 0 || destination > 99 || weight < 1 || weight > 50 || condition < 0 || condition > 2);
        refuseState(world.parcels.size() == 60 || world.stations.get(station).queue.size() == 10);
        change(w -> w.arrive(station, new Parcel(destination, weight, condition)));
        return world.parcels.size() - 1;
    }

    int run(int ticks) {
        refuseRange(ticks < 1 || ticks > 100);
        int before = world.ledger.size();
        change(w -> w.ticks(ticks));
        return world.ledger.size() - before;
    }

    boolean setClosed(int chute, boolean isClosed) {
        refuseIndex(chute, world.chutes.size());
        boolean before = world.chutes.get(chute).closed;
        change(w -> w.chutes.get(chute).closed = isClosed);
        return before;
    }

    int clear(int chute) {
        refuseIndex(chute, world.chutes.size());
        int before = world.chutes.get(chute).jammed;
        refuseState(before == 0);
        change(w -> w.chutes.get(chute).jammed = 0);
        return before;
    }

    // ---- texts

    static boolean isPlan(String text) {
        if (!PLAN.matcher(text).matches()) {
            return false;
        }
        for (String rule : text.substring(text.indexOf(':') + 1, text.indexOf('x')).split(";")) {
            String[] chutes = rule.split("=")[1].split(",");
            if (new HashSet<>(Arrays.asList(chutes)).size() < chutes.length) {
                return false;
            }
        }
        return true;
    }

    private static boolean begins(String text) {
        for (String end : ENDS) {
            if (isPlan(text + end)) {
                return true;
            }
        }
        return false;
    }

    static int fault(String text) {
        for (int i = 0; i < text.length(); i++) {
            if (!begins(text.substring(0, i + 1))) {
                return i;
            }
        }
        return text.length();
    }

    // ---- questions

    private Plan planNumber(int plan) {
        refuseIndex(plan, world.plans.size());
        return new ArrayList<>(world.plans.values()).get(plan);
    }

    int plan(int plan, int what) {
        Plan it = planNumber(plan);
        refuseRange(what < 0 || what > 4);
        int without = 0;
        for (int d = 0; d < 100; d++) {
            without += it.rule(d) == null ? 1 : 0;
        }
        return new int[] {it.tick, it.rules.size(), it.exception, it.bound, without}[what];
    }

    int route(int tick, int destination, int i) {
        refuseRange(tick < 0 || destination < 0 || destination > 99);
        refuseState(world.plan(tick) == null);
        Rule rule = world.plan(tick).rule(destination);
        if (rule == null || i < -1 || i >= rule.chutes.size()) {
            throw new NoSuchElementException();
        }
        return i == -1 ? rule.chutes.size() : rule.chutes.get(i);
    }

    int find(int destination, int serial) {
        int seen = 0;
        for (int i = 0; i < world.parcels.size(); i++) {
            if (world.parcels.get(i).destination == destination && seen++ == serial) {
                return i;
            }
        }
        throw new NoSuchElementException();
    }

    int parcel(int parcel, int what) {
        refuseIndex(parcel, world.parcels.size());
        refuseRange(what < 0 || what > 11);
        Parcel it = world.parcels.get(parcel);
        int serial = 0;
        for (int i = 0; i < parcel; i++) {
            serial += world.parcels.get(i).destination == it.destination ? 1 : 0;
        }
        int loop = Arrays.asList(world.carriers).indexOf(it);
        int where = it.chute >= 0 ? 2 : loop >= 0 ? 1 : 0;
        int at = where == 2 ? it.chute : where == 1 ? loop : it.station;
        int spoilt = 0;
        for (int chute : it.spoilt) {
            spoilt |= 1 << chute;
        }
        return new int[] {it.destination, serial, it.weight, it.condition, where, at, it.scans, it.target, it.reason,
            it.dropTick, it.verdict, spoilt}[what];
    }

    int carried(int place) {
        refuseIndex(place, world.places);
        if (world.carriers[place] == null) {
            throw new NoSuchElementException();
        }
        return world.parcels.indexOf(world.carriers[place]);
    }

    int chute(int chute, int what) {
        refuseIndex(chute, world.chutes.size());
        refuseRange(what < 0 || what > 11);
        Chute it = world.chutes.get(chute);
        int aimed = 0;
        int dropped = 0;
        for (Parcel parcel : world.parcels) {
            aimed += parcel.target == chute ? 1 : 0;
            dropped += parcel.chute == chute ? 1 : 0;
        }
        return new int[] {it.set[0], it.content, it.jammed, it.swapped, it.closed ? 1 : 0, it.usable() ? 1 : 0,
            it.latest, dropped, it.jams, it.passes, it.bags, aimed}[what];
    }

    int station(int station, int what) {
        refuseIndex(station, world.stations.size());
        refuseRange(what < 0 || what > 3);
        Station it = world.stations.get(station);
        int first = it.queue.isEmpty() ? -1 : world.parcels.indexOf(it.queue.get(0));
        return new int[] {it.place, it.queue.size(), first, it.left}[what];
    }

    int count(int what) {
        refuseRange(what < 0 || what > 16);
        int[] counts = new int[17];
        World w = world;
        counts[0] = w.time;
        counts[1] = w.places;
        counts[2] = w.stations.size();
        counts[3] = w.chutes.size();
        counts[4] = w.plans.size();
        counts[5] = w.parcels.size();
        for (int i = 0; i < w.parcels.size(); i++) {
            Parcel it = w.parcels.get(i);
            counts[6 + parcel(i, 4)]++;
            if (it.verdict >= 0) {
                counts[9 + it.verdict]++;
            }
            counts[13] += it.rounds();
            counts[16] = Math.max(counts[16], it.rounds());
        }
        for (Chute chute : w.chutes) {
            counts[14] += chute.jams;
            counts[15] += chute.bags;
        }
        return counts[what];
    }

    double meanRounds() {
        if (world.ledger.isEmpty()) {
            throw new ArithmeticException();
        }
        int sum = 0;
        for (Parcel parcel : world.ledger) {
            sum += parcel.rounds();
        }
        return (double) sum / (double) world.ledger.size();
    }

    int foresee(int parcel, int ticks, boolean isTick) {
        refuseIndex(parcel, world.parcels.size());
        refuseRange(ticks < 1 || ticks > 200);
        World later = replay(startPlaces, changes);
        if (later.parcels.get(parcel).chute < 0) {
            later.ticks(ticks);
        }
        Parcel it = later.parcels.get(parcel);
        if (it.chute < 0) {
            throw new NoSuchElementException();
        }
        return isTick ? it.dropTick : it.chute;
    }

    int untilEmpty(int ticks) {
        refuseRange(ticks < 1 || ticks > 200);
        World later = replay(startPlaces, changes);
        for (int i = 0; i <= ticks; i++) {
            if (later.ledger.size() == later.parcels.size()) {
                return i;
            }
            later.ticks(1);
        }
        throw new NoSuchElementException();
    }

    int ledger(int i, int what) {
        refuseIndex(i, world.ledger.size());
        refuseRange(what < 0 || what > 3);
        Parcel it = world.ledger.get(i);
        return new int[] {world.parcels.indexOf(it), it.chute, it.dropTick, it.verdict}[what];
    }

    int write(int plan) {
        Plan it = planNumber(plan);
        List<String> rules = new ArrayList<>();
        for (Rule rule : it.rules) {
            String range = rule.first == rule.last ? "" + rule.first : rule.first + "-" + rule.last;
            rules.add(range + "=" + rule.chutes.toString().replaceAll("[\\[\\] ]", ""));
        }
        paper = "@" + it.tick + ":" + String.join(";", rules) + "x" + it.exception
            + (it.bound == 3 ? "" : "*" + it.bound);
        return paper.length();
    }

    char paper(int i) {
        refuseIndex(i, paper.length());
        return paper.charAt(i);
    }

    // ---- refusals

    private static void refuseRange(boolean isWrong) {
        if (isWrong) {
            throw new IllegalArgumentException();
        }
    }

    private static void refuseState(boolean isWrong) {
        if (isWrong) {
            throw new IllegalStateException();
        }
    }

    private static void refuseIndex(int index, int length) {
        if (index < 0 || index >= length) {
            throw new IndexOutOfBoundsException();
        }
    }

    // ---- the world

    static final class Parcel {
        final int destination;
        final int weight;
        final int condition;
        int station;
        int scans;
        int target = -1;
        int reason = -1;
        int chute = -1;
        int dropTick = -1;
        int verdict = -1;
        final Set<Integer> spoilt = new HashSet<>();

        Parcel(int destination, int weight, int condition) {
            this.destination = destination;
            this.weight = weight;
            this.condition = condition;
        }

        int rounds() {
            return scans == 0 ? 0 : scans - 1;
        }

        int read() {
            String digits = destination < 10 ? "0" + destination : "" + destination;
            return condition == 1 ? Integer.parseInt(new StringBuilder(digits).reverse().toString()) : destination;
        }
    }

    static final class Station {
        final int place;
        final List<Parcel> queue = new ArrayList<>();
        int left;

        Station(int place) {
            this.place = place;
        }
    }

    static final class Chute {
        /** Place, capacity, gap, limit, clearing, swap. */
        final int[] set;
        int content;
        int jammed;
        int swapped;
        boolean closed;
        int latest = -1;
        int jams;
        int passes;
        int bags;

        Chute(int[] set) {
            this.set = set;
        }

        boolean usable() {
            return !closed && jammed == 0 && swapped == 0 && content < set[1];
        }
    }

    static final class Rule {
        int first;
        int last;
        final List<Integer> chutes = new ArrayList<>();
    }

    static final class Plan {
        final int tick;
        final List<Rule> rules = new ArrayList<>();
        final int exception;
        final int bound;

        Plan(String text) {
            tick = Integer.parseInt(text.substring(1, text.indexOf(':')));
            for (String part : text.substring(text.indexOf(':') + 1, text.indexOf('x')).split(";")) {
                String[] range = part.split("=")[0].split("-");
                Rule rule = new Rule();
                rule.first = Integer.parseInt(range[0]);
                rule.last = Integer.parseInt(range[range.length - 1]);
                for (String chute : part.split("=")[1].split(",")) {
                    rule.chutes.add(Integer.parseInt(chute));
                }
                rules.add(rule);
            }
            String[] tail = text.substring(text.indexOf('x') + 1).split("\\*");
            exception = Integer.parseInt(tail[0]);
            bound = tail.length == 2 ? Integer.parseInt(tail[1]) : 3;
        }

        Rule rule(int destination) {
            for (Rule rule : rules) {
                if (rule.first <= destination && destination <= rule.last) {
                    return rule;
                }
            }
            return null;
        }

        boolean isPossible(int chutes) {
            for (Rule rule : rules) {
                for (int chute : rule.chutes) {
                    if (chute >= chutes) {
                        return false;
                    }
                }
                if (rule.first > 99 || rule.last > 99 || rule.first > rule.last) {
                    return false;
                }
            }
            return exception < chutes;
        }
    }

    static final class World {
        final int places;
        int time;
        final List<Station> stations = new ArrayList<>();
        final List<Chute> chutes = new ArrayList<>();
        final List<Parcel> parcels = new ArrayList<>();
        final List<Parcel> ledger = new ArrayList<>();
        final TreeMap<Integer, Plan> plans = new TreeMap<>();
        Parcel[] carriers;

        World(int places) {
            this.places = places;
            carriers = new Parcel[places];
        }

        Set<Integer> takenPlaces() {
            Set<Integer> taken = new HashSet<>();
            stations.forEach(station -> taken.add(station.place));
            chutes.forEach(chute -> taken.add(chute.set[0]));
            return taken;
        }

        /** A parcel of its own for each replay. */
        void arrive(int station, Parcel like) {
            Parcel parcel = new Parcel(like.destination, like.weight, like.condition);
            parcel.station = station;
            parcels.add(parcel);
            stations.get(station).queue.add(parcel);
        }

        Plan plan(int tick) {
            return plans.floorEntry(tick) == null ? null : plans.floorEntry(tick).getValue();
        }

        void ticks(int ticks) {
            for (int i = 0; i < ticks; i++) {
                tick();
            }
        }

        private void tick() {
            time++;
            for (Chute chute : chutes) {
                chute.jammed = Math.max(0, chute.jammed - 1);
                if (chute.swapped > 0 && --chute.swapped == 0) {
                    chute.content = 0;
                }
            }
            Parcel[] moved = new Parcel[places];
            for (int i = 0; i < places; i++) {
                moved[(i + 1) % places] = carriers[i];
            }
            carriers = moved;
            if (carriers[0] != null) {
                scan(carriers[0]);
            }
            for (int i = 0; i < chutes.size(); i++) {
                Parcel parcel = carriers[chutes.get(i).set[0]];
                if (parcel != null && parcel.target == i) {
                    attempt(parcel, i);
                }
            }
            for (Station station : stations) {
                if (carriers[station.place] == null && !station.queue.isEmpty()) {
                    carriers[station.place] = station.queue.remove(0);
                    station.left++;
                }
            }
        }

        private boolean suits(Parcel parcel, int chute) {
            return chutes.get(chute).usable() && !parcel.spoilt.contains(chute);
        }

        private void scan(Parcel parcel) {
            parcel.scans++;
            parcel.target = -1;
            Plan plan = plan(time);
            if (plan == null) {
                parcel.reason = 5;
                return;
            }
            Rule rule = plan.rule(parcel.read());
            int why = parcel.condition == 2 ? 2 : parcel.rounds() > plan.bound ? 3 : rule == null ? 4 : 0;
            if (why > 0) {
                boolean suits = suits(parcel, plan.exception);
                parcel.target = suits ? plan.exception : -1;
                parcel.reason = suits ? why : why + 10;
                return;
            }
            parcel.reason = 6;
            for (int i = rule.chutes.size() - 1; i >= 0; i--) {
                if (suits(parcel, rule.chutes.get(i))) {
                    parcel.target = rule.chutes.get(i);
                    parcel.reason = Math.min(i, 1);
                }
            }
        }

        private void attempt(Parcel parcel, int number) {
            Chute chute = chutes.get(number);
            parcel.target = -1;
            if (!chute.usable()) {
                chute.passes++;
                return;
            }
            boolean isHeavy = parcel.weight > chute.set[3];
            if (isHeavy || chute.latest > 0 && time - chute.latest < chute.set[2]) {
                if (isHeavy) {
                    parcel.spoilt.add(number);
                }
                chute.jams++;
                chute.jammed = chute.set[4];
                return;
            }
            carriers[chute.set[0]] = null;
            parcel.chute = number;
            parcel.dropTick = time;
            ledger.add(parcel);
            chute.latest = time;
            chute.content++;
            if (chute.content == chute.set[1]) {
                chute.bags++;
                chute.swapped = chute.set[5];
                chute.content = chute.set[5] == 0 ? 0 : chute.content;
            }
            Rule rule = plan(time).rule(parcel.destination);
            parcel.verdict = plan(time).exception == number ? 1
                : rule != null && rule.chutes.contains(number) ? 0 : parcel.condition == 1 ? 2 : 3;
        }
    }
}
