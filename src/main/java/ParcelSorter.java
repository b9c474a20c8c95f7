import java.util.Arrays;
import java.util.NoSuchElementException;

public final class ParcelSorter {
    private static final int NONE = -1;

    private static final int FEWEST_PLACES = 12;
    private static final int MOST_PLACES = 30;
    private static final int MOST_STATIONS = 3;
    private static final int MOST_CHUTES = 8;
    private static final int MOST_CAPACITY = 20;
    private static final int MOST_GAP = 5;
    private static final int MOST_LIMIT = 50;
    private static final int MOST_CLEARING = 9;
    private static final int MOST_SWAP = 9;
    private static final int MOST_PARCELS = 60;
    private static final int MOST_WAITING = 10;
    private static final int MOST_WEIGHT = 50;
    private static final int DESTINATIONS = 100;

    private static final int MOST_PLANS = 5;
    private static final int MOST_RULES = 8;
    private static final int MOST_RULE_CHUTES = 3;
    private static final int MOST_DIGITS = 4;
    private static final int USUAL_BOUND = 3;
    private static final int MOST_INPUT = 80;
    private static final int FAULT = -100;

    private static final int MOST_CHANGES = 8;
    private static final int MOST_RUN = 100;
    private static final int MOST_AHEAD = 200;

    private static final int WORN = 1;
    private static final int UNREADABLE = 2;

    private static final int WAITS = 0;
    private static final int ON_LOOP = 1;
    private static final int DROPPED = 2;

    private static final int REASON_FIRST = 0;
    private static final int REASON_OTHER = 1;
    private static final int REASON_UNREADABLE = 2;
    private static final int REASON_ROUNDS = 3;
    private static final int REASON_NO_RULE = 4;
    private static final int REASON_NO_PLAN = 5;
    private static final int REASON_NO_CHUTE = 6;
    private static final int REASON_NO_EXCEPTION = 10;

    private static final int VERDICT_RIGHT = 0;
    private static final int VERDICT_EXCEPTION = 1;
    private static final int VERDICT_MISREAD = 2;
    private static final int VERDICT_WRONG = 3;
    private static final int VERDICTS = 4;

    private final State now = new State();
    private final State ahead = new State();
    private final State snapshot = new State();
    private final State[] past = new State[MOST_CHANGES];
    private int pastCount;
    private int pastEnd;
    private boolean hasSnapshot;
    private final char[] input = new char[MOST_INPUT];
    private int inputLength;
    private final StringBuilder paperText = new StringBuilder();

    public ParcelSorter() {
        for (int i = 0; i < MOST_CHANGES; i++) {
            past[i] = new State();
        }
    }

    // ---- building

    public int build(int places) throws IllegalArgumentException {
        if (places < FEWEST_PLACES || places > MOST_PLACES) {
            throw new IllegalArgumentException("places out of range");
        }
        int parcelsBefore = now.parcelCount;
        now.reset(places);
        forgetChanges();
        return parcelsBefore;
    }

    public int addStation(int place) throws IllegalArgumentException, IllegalStateException {
        if (!now.isFree(place)) {
            throw new IllegalArgumentException("no free place");
        }
        if (now.stationCount >= MOST_STATIONS) {
            throw new IllegalStateException("too many stations");
        }
        remember();
        return now.putStation(place);
    }

    public int addChute(int place, int capacity, int gap, int limit, int clearing, int swap)
            throws IllegalArgumentException, IllegalStateException {
        if (!now.isFree(place)) {
            throw new IllegalArgumentException("no free place");
        }
        if (!isIn(capacity, 1, MOST_CAPACITY) || !isIn(gap, 0, MOST_GAP) || !isIn(limit, 1, MOST_LIMIT)
                || !isIn(clearing, 1, MOST_CLEARING) || !isIn(swap, 0, MOST_SWAP)) {
            throw new IllegalArgumentException("argument out of range");
        }
        if (now.chuteCount >= MOST_CHUTES) {
            throw new IllegalStateException("too many chutes");
        }
        remember();
        Chute chute = now.putChute();
        chute.place = place;
        chute.capacity = capacity;
        chute.gap = gap;
        chute.limit = limit;
        chute.clearing = clearing;
        chute.swap = swap;
        return now.chuteCount - 1;
    }

    public int feed(char character) throws IllegalStateException {
        if (inputLength >= MOST_INPUT) {
            throw new IllegalStateException("the input is full");
        }
        input[inputLength] = character;
        inputLength++;
        return inputLength;
    }

    public int addPlan() throws UnsupportedOperationException, IllegalStateException {
        PlanReader reader = new PlanReader(input, inputLength);
        // the input is empty afterwards in any case, so before anything is thrown
        inputLength = 0;
        if (!reader.readPlan()) {
            return FAULT - reader.position;
        }
        Plan plan = reader.plan;
        if (!plan.isPossible(now.chuteCount)) {
            throw new UnsupportedOperationException("impossible plan");
        }
        if (now.planCount >= MOST_PLANS && !now.hasPlanFrom(plan.firstTick)) {
            throw new IllegalStateException("too many plans");
        }
        remember();
        now.putPlan(plan);
        return now.planCount;
    }

    public int plan(int plan, int what) throws IndexOutOfBoundsException, IllegalArgumentException {
        requireIndex(plan, now.planCount);
        requireWhat(what, 4);
        Plan it = now.plans[plan];
        switch (what) {
            case 0: return it.firstTick;
            case 1: return it.ruleCount;
            case 2: return it.exception;
            case 3: return it.bound;
            default: return it.destinationsWithoutRule();
        }
    }

    public int route(int tick, int destination, int i)
            throws IllegalArgumentException, IllegalStateException, NoSuchElementException {
        if (tick < 0 || !isIn(destination, 0, DESTINATIONS - 1)) {
            throw new IllegalArgumentException("argument out of range");
        }
        Plan plan = now.planOf(tick);
        if (plan == null) {
            throw new IllegalStateException("no plan of this tick");
        }
        int rule = plan.ruleOf(destination);
        if (rule == NONE) {
            throw new NoSuchElementException("no rule");
        }
        if (i < NONE || i >= plan.chuteCounts[rule]) {
            throw new NoSuchElementException("no such chute in the rule");
        }
        return i == NONE ? plan.chuteCounts[rule] : plan.chuteIn(rule, i);
    }

    // ---- parcels

    public int arrive(int station, int destination, int weight, int condition)
            throws IndexOutOfBoundsException, IllegalArgumentException, IllegalStateException {
        requireIndex(station, now.stationCount);
        if (!isIn(destination, 0, DESTINATIONS - 1) || !isIn(weight, 1, MOST_WEIGHT)
                || !isIn(condition, 0, UNREADABLE)) {
            throw new IllegalArgumentException("argument out of range");
        }
        if (now.parcelCount >= MOST_PARCELS || now.stations[station].isFull()) {
            throw new IllegalStateException("no room for a parcel");
        }
        remember();
        int number = now.putParcel(station, destination);
        now.parcels[number].weight = weight;
        now.parcels[number].condition = condition;
        return number;
    }

    public int find(int destination, int serial) throws NoSuchElementException {
        for (int i = 0; i < now.parcelCount; i++) {
            Parcel it = now.parcels[i];
            if (it.destination == destination && it.serial == serial) {
                return i;
            }
        }
        throw new NoSuchElementException("no such parcel");
    }

    public int parcel(int parcel, int what) throws IndexOutOfBoundsException, IllegalArgumentException {
        requireIndex(parcel, now.parcelCount);
        requireWhat(what, 11);
        Parcel it = now.parcels[parcel];
        switch (what) {
            case 0: return it.destination;
            case 1: return it.serial;
            case 2: return it.weight;
            case 3: return it.condition;
            case 4: return it.whereabouts;
            case 5: return it.whereabouts == ON_LOOP ? now.placeOf(it.spot) : it.spot;
            case 6: return it.scans;
            case 7: return it.target;
            case 8: return it.reason;
            case 9: return it.dropTick;
            case 10: return it.verdict;
            default: return it.spoilt;
        }
    }

    public int carried(int place) throws IndexOutOfBoundsException, NoSuchElementException {
        requireIndex(place, now.places);
        int parcel = now.parcelAt(place);
        if (parcel == NONE) {
            throw new NoSuchElementException("the carrier is empty");
        }
        return parcel;
    }

    // ---- running

    public int run(int ticks) throws IllegalArgumentException {
        requireTicks(ticks, MOST_RUN);
        remember();
        int droppedBefore = now.droppedCount;
        for (int i = 0; i < ticks; i++) {
            now.passTick();
        }
        return now.droppedCount - droppedBefore;
    }

    public boolean setClosed(int chute, boolean isClosed) throws IndexOutOfBoundsException {
        requireIndex(chute, now.chuteCount);
        remember();
        boolean wasClosed = now.chutes[chute].isClosed;
        now.chutes[chute].isClosed = isClosed;
        return wasClosed;
    }

    public int clear(int chute) throws IndexOutOfBoundsException, IllegalStateException {
        requireIndex(chute, now.chuteCount);
        int jammed = now.chutes[chute].jammed;
        if (jammed == 0) {
            throw new IllegalStateException("the chute is not jammed");
        }
        remember();
        now.chutes[chute].jammed = 0;
        return jammed;
    }

    public int chute(int chute, int what) throws IndexOutOfBoundsException, IllegalArgumentException {
        requireIndex(chute, now.chuteCount);
        requireWhat(what, 11);
        Chute it = now.chutes[chute];
        switch (what) {
            case 0: return it.place;
            case 1: return it.content;
            case 2: return it.jammed;
            case 3: return it.swapped;
            case 4: return it.isClosed ? 1 : 0;
            case 5: return it.isUsable() ? 1 : 0;
            case 6: return it.latestDrop;
            case 7: return it.drops;
            case 8: return it.jams;
            case 9: return it.passes;
            case 10: return it.bags;
            default: return now.parcelsAimedAt(chute);
        }
    }

    public int station(int station, int what) throws IndexOutOfBoundsException, IllegalArgumentException {
        requireIndex(station, now.stationCount);
        requireWhat(what, 3);
        Station it = now.stations[station];
        switch (what) {
            case 0: return it.place;
            case 1: return it.waitingCount;
            case 2: return it.firstWaiting();
            default: return it.departures;
        }
    }

    public int count(int what) throws IllegalArgumentException {
        requireWhat(what, 16);
        switch (what) {
            case 0: return now.time;
            case 1: return now.places;
            case 2: return now.stationCount;
            case 3: return now.chuteCount;
            case 4: return now.planCount;
            case 5: return now.parcelCount;
            case 6: return now.waitingInStations();
            case 7: return now.carriedOnLoop();
            case 8: return now.droppedCount;
            case 9: return now.verdictCounts[VERDICT_RIGHT];
            case 10: return now.verdictCounts[VERDICT_EXCEPTION];
            case 11: return now.verdictCounts[VERDICT_MISREAD];
            case 12: return now.verdictCounts[VERDICT_WRONG];
            case 13: return now.roundCount;
            case 14: return now.jamsOfChutes();
            case 15: return now.bagsOfChutes();
            default: return now.greatestRounds();
        }
    }

    public double meanRounds() throws ArithmeticException {
        if (now.droppedCount == 0) {
            throw new ArithmeticException("no parcel was dropped");
        }
        return (double) now.roundsOfDropped() / (double) now.droppedCount;
    }

    // ---- looking ahead, audit

    public int foresee(int parcel, int ticks, boolean isTick)
            throws IndexOutOfBoundsException, IllegalArgumentException, NoSuchElementException {
        requireIndex(parcel, now.parcelCount);
        requireTicks(ticks, MOST_AHEAD);
        ahead.copyFrom(now);
        Parcel it = ahead.parcels[parcel];
        for (int i = 0; i < ticks && it.whereabouts != DROPPED; i++) {
            ahead.passTick();
        }
        if (it.whereabouts != DROPPED) {
            throw new NoSuchElementException("not dropped within these ticks");
        }
        return isTick ? it.dropTick : it.spot;
    }

    public int untilEmpty(int ticks) throws IllegalArgumentException, NoSuchElementException {
        requireTicks(ticks, MOST_AHEAD);
        ahead.copyFrom(now);
        for (int i = 0; i < ticks && !ahead.isEmpty(); i++) {
            ahead.passTick();
        }
        if (!ahead.isEmpty()) {
            throw new NoSuchElementException("not empty within these ticks");
        }
        return ahead.time - now.time;
    }

    public boolean audit() {
        if (now.parcelsThatAre(WAITS) != now.waitingInStations()
                || now.parcelsThatAre(ON_LOOP) != now.carriedOnLoop()
                || now.parcelsThatAre(DROPPED) != now.droppedCount) {
            return false;
        }
        if (now.waitingInStations() + now.carriedOnLoop() + now.droppedCount != now.parcelCount) {
            return false;
        }
        return now.chutesAgree() && now.verdictsAgree() && now.roundsAgree();
    }

    public int ledger(int i, int what) throws IndexOutOfBoundsException, IllegalArgumentException {
        requireIndex(i, now.droppedCount);
        requireWhat(what, 3);
        int number = now.dropOrder[i];
        requireIndex(number, now.parcelCount);
        Parcel it = now.parcels[number];
        switch (what) {
            case 0: return number;
            case 1: return it.spot;
            case 2: return it.dropTick;
            default: return it.verdict;
        }
    }

    // ---- undo, snapshot

    public int undo() throws IllegalStateException {
        if (pastCount == 0) {
            throw new IllegalStateException("no change to undo");
        }
        pastCount--;
        pastEnd = pastEnd > 0 ? pastEnd - 1 : MOST_CHANGES - 1;
        now.copyFrom(past[pastEnd]);
        return pastCount;
    }

    public int saveSnapshot() {
        snapshot.copyFrom(now);
        hasSnapshot = true;
        return now.time;
    }

    public int restoreSnapshot() throws IllegalStateException {
        if (!hasSnapshot) {
            throw new IllegalStateException("no snapshot was saved");
        }
        now.copyFrom(snapshot);
        forgetChanges();
        return now.time;
    }

    public int write(int plan) throws IndexOutOfBoundsException {
        requireIndex(plan, now.planCount);
        paperText.setLength(0);
        now.plans[plan].writeTo(paperText);
        return paperText.length();
    }

    public char paper(int i) throws IndexOutOfBoundsException {
        requireIndex(i, paperText.length());
        return paperText.charAt(i);
    }

    // ---- what the methods above share

    private static boolean isIn(int value, int least, int greatest) {
        return value >= least && value <= greatest;
    }

    private static void requireIndex(int index, int length) {
        if (index < 0 || index >= length) {
            throw new IndexOutOfBoundsException("no such number");
        }
    }

    private static void requireWhat(int what, int greatest) {
        if (what < 0 || what > greatest) {
            throw new IllegalArgumentException("what is not valid");
        }
    }

    private static void requireTicks(int ticks, int most) {
        if (ticks < 1 || ticks > most) {
            throw new IllegalArgumentException("ticks out of range");
        }
    }

    private void remember() {
        past[pastEnd].copyFrom(now);
        pastEnd = pastEnd < MOST_CHANGES - 1 ? pastEnd + 1 : 0;
        pastCount = Math.min(pastCount + 1, MOST_CHANGES);
    }

    private void forgetChanges() {
        pastCount = 0;
    }

    private static final class Parcel {
        int destination;
        int serial;
        int weight;
        int condition;
        int whereabouts;
        /** The station, the carrier or the chute: a carrier's number stays while its place changes. */
        int spot;
        int scans;
        int target;
        int reason;
        int dropTick;
        int verdict;
        int spoilt;

        void reset(int station, int destination, int serial) {
            this.destination = destination;
            this.serial = serial;
            whereabouts = WAITS;
            spot = station;
            scans = 0;
            target = NONE;
            reason = NONE;
            dropTick = NONE;
            verdict = NONE;
            spoilt = 0;
        }

        void copyFrom(Parcel other) {
            destination = other.destination;
            serial = other.serial;
            weight = other.weight;
            condition = other.condition;
            whereabouts = other.whereabouts;
            spot = other.spot;
            scans = other.scans;
            target = other.target;
            reason = other.reason;
            dropTick = other.dropTick;
            verdict = other.verdict;
            spoilt = other.spoilt;
        }

        int rounds() {
            return Math.max(scans - 1, 0);
        }

        int destinationAsRead() {
            return condition == WORN ? destination % 10 * 10 + destination / 10 : destination;
        }

        boolean isSpoiltFor(int chute) {
            return (spoilt >> chute & 1) == 1;
        }

        void spoil(int chute) {
            spoilt |= 1 << chute;
        }
    }

    private static final class Station {
        int place;
        int waitingCount;
        int departures;
        final int[] waiting = new int[MOST_WAITING];

        void reset(int place) {
            this.place = place;
            waitingCount = 0;
            departures = 0;
        }

        void copyFrom(Station other) {
            place = other.place;
            waitingCount = other.waitingCount;
            departures = other.departures;
            System.arraycopy(other.waiting, 0, waiting, 0, MOST_WAITING);
        }

        boolean isFull() {
            return waitingCount >= MOST_WAITING;
        }

        int firstWaiting() {
            return waitingCount > 0 ? waiting[0] : NONE;
        }

        void append(int parcel) {
            if (!isFull()) {
                waiting[waitingCount] = parcel;
                waitingCount++;
            }
        }

        void releaseFirst() {
            if (waitingCount > 0) {
                System.arraycopy(waiting, 1, waiting, 0, MOST_WAITING - 1);
                waitingCount--;
                departures++;
            }
        }
    }

    private static final class Chute {
        int place;
        int capacity;
        int gap;
        int limit;
        int clearing;
        int swap;
        int content;
        int jammed;
        int swapped;
        boolean isClosed;
        int latestDrop;
        int drops;
        int jams;
        int passes;
        int bags;

        void reset() {
            content = 0;
            jammed = 0;
            swapped = 0;
            isClosed = false;
            latestDrop = NONE;
            drops = 0;
            jams = 0;
            passes = 0;
            bags = 0;
        }

        void copyFrom(Chute other) {
            place = other.place;
            capacity = other.capacity;
            gap = other.gap;
            limit = other.limit;
            clearing = other.clearing;
            swap = other.swap;
            content = other.content;
            jammed = other.jammed;
            swapped = other.swapped;
            isClosed = other.isClosed;
            latestDrop = other.latestDrop;
            drops = other.drops;
            jams = other.jams;
            passes = other.passes;
            bags = other.bags;
        }

        boolean isUsable() {
            return !isClosed && jammed == 0 && swapped == 0 && content < capacity;
        }

        boolean isWithinGap(int tick) {
            return latestDrop != NONE && tick - latestDrop < gap;
        }

        void passTick() {
            if (jammed > 0) {
                jammed--;
            }
            if (swapped > 0) {
                swapped--;
                if (swapped == 0) {
                    content = 0;
                }
            }
        }

        void jam() {
            jammed = clearing;
            jams++;
        }

        void receive(int tick) {
            content++;
            drops++;
            latestDrop = tick;
            if (content == capacity) {
                finishBag();
            }
        }

        private void finishBag() {
            bags++;
            swapped = swap;
            if (swap == 0) {
                content = 0;
            }
        }
    }

    /** Is not changed any more once it is read, so that states can share it. */
    private static final class Plan {
        int firstTick;
        int ruleCount;
        int exception;
        int bound = USUAL_BOUND;
        final int[] firsts = new int[MOST_RULES];
        final int[] lasts = new int[MOST_RULES];
        final int[] chuteCounts = new int[MOST_RULES];
        final int[] chutes = new int[MOST_RULES * MOST_RULE_CHUTES];

        int ruleOf(int destination) {
            for (int i = 0; i < ruleCount; i++) {
                if (isIn(destination, firsts[i], lasts[i])) {
                    return i;
                }
            }
            return NONE;
        }

        int chuteIn(int rule, int i) {
            return chutes[rule * MOST_RULE_CHUTES + i];
        }

        boolean hasChute(int rule, int chute) {
            for (int i = 0; i < chuteCounts[rule]; i++) {
                if (chuteIn(rule, i) == chute) {
                    return true;
                }
            }
            return false;
        }

        int destinationsWithoutRule() {
            int sum = 0;
            for (int i = 0; i < DESTINATIONS; i++) {
                if (ruleOf(i) == NONE) {
                    sum++;
                }
            }
            return sum;
        }

        void addRule(int first, int last) {
            if (ruleCount < MOST_RULES) {
                firsts[ruleCount] = first;
                lasts[ruleCount] = last;
                ruleCount++;
            }
        }

        void addChuteToLatestRule(int chute) {
            int rule = ruleCount - 1;
            if (rule >= 0 && chuteCounts[rule] < MOST_RULE_CHUTES) {
                chutes[rule * MOST_RULE_CHUTES + chuteCounts[rule]] = chute;
                chuteCounts[rule]++;
            }
        }

        boolean isPossible(int chuteCount) {
            for (int i = 0; i < ruleCount; i++) {
                if (lasts[i] >= DESTINATIONS || firsts[i] > lasts[i]) {
                    return false;
                }
                for (int j = 0; j < chuteCounts[i]; j++) {
                    if (chuteIn(i, j) >= chuteCount) {
                        return false;
                    }
                }
            }
            return exception < chuteCount;
        }

        void writeTo(StringBuilder paper) {
            paper.append('@').append(firstTick);
            for (int i = 0; i < ruleCount; i++) {
                paper.append(i == 0 ? ':' : ';');
                writeRule(paper, i);
            }
            paper.append('x').append(exception);
            if (bound != USUAL_BOUND) {
                paper.append('*').append(bound);
            }
        }

        private void writeRule(StringBuilder paper, int rule) {
            paper.append(firsts[rule]);
            if (lasts[rule] != firsts[rule]) {
                paper.append('-').append(lasts[rule]);
            }
            for (int i = 0; i < chuteCounts[rule]; i++) {
                paper.append(i == 0 ? '=' : ',').append(chuteIn(rule, i));
            }
        }
    }

    /** Reads from left to right and stops at the first fault, where its position then stands. */
    private static final class PlanReader {
        final Plan plan = new Plan();
        int position;
        private final char[] text;
        private final int length;

        PlanReader(char[] text, int length) {
            this.text = text;
            this.length = Math.min(length, text.length);
        }

        boolean readPlan() {
            if (!skip('@')) {
                return false;
            }
            plan.firstTick = readNumber();
            if (plan.firstTick == NONE || !skip(':') || !readRules() || !skip('x')) {
                return false;
            }
            plan.exception = readDigit(MOST_CHUTES - 1);
            if (plan.exception == NONE || !readBound()) {
                return false;
            }
            return position == length;
        }

        private boolean readRules() {
            boolean isMore = true;
            for (int i = 1; i <= MOST_RULES && isMore; i++) {
                if (!readRule()) {
                    return false;
                }
                isMore = i < MOST_RULES && skip(';');
            }
            return true;
        }

        private boolean readRule() {
            int first = readNumber();
            if (first == NONE) {
                return false;
            }
            int last = skip('-') ? readNumber() : first;
            if (last == NONE || !skip('=')) {
                return false;
            }
            plan.addRule(first, last);
            return readChutes();
        }

        private boolean readChutes() {
            boolean isMore = true;
            for (int i = 1; i <= MOST_RULE_CHUTES && isMore; i++) {
                int chute = nextDigit(MOST_CHUTES - 1);
                if (chute == NONE || plan.hasChute(plan.ruleCount - 1, chute)) {
                    return false;
                }
                position++;
                plan.addChuteToLatestRule(chute);
                isMore = i < MOST_RULE_CHUTES && skip(',');
            }
            return true;
        }

        private boolean readBound() {
            if (skip('*')) {
                plan.bound = readDigit(9);
            }
            return plan.bound != NONE;
        }

        private int readNumber() {
            int number = readDigit(9);
            if (number == NONE) {
                return NONE;
            }
            for (int i = 1; i < MOST_DIGITS; i++) {
                int digit = readDigit(9);
                if (digit == NONE) {
                    return number;
                }
                number = number * 10 + digit;
            }
            return number;
        }

        private int readDigit(int greatest) {
            int digit = nextDigit(greatest);
            if (digit != NONE) {
                position++;
            }
            return digit;
        }

        private int nextDigit(int greatest) {
            int digit = position < length ? text[position] - '0' : NONE;
            return digit >= 0 && digit <= greatest ? digit : NONE;
        }

        private boolean skip(char sign) {
            boolean isThere = position < length && text[position] == sign;
            if (isThere) {
                position++;
            }
            return isThere;
        }
    }

    /** All that undo and the snapshot bring back, and a look ahead tries out. */
    private static final class State {
        int time;
        int places;
        /** The carrier at place 0: carriers stay in their row, and only this number moves. */
        int foremost;
        int stationCount;
        int chuteCount;
        int planCount;
        int parcelCount;
        int droppedCount;
        int roundCount;
        final Station[] stations = new Station[MOST_STATIONS];
        final Chute[] chutes = new Chute[MOST_CHUTES];
        final Plan[] plans = new Plan[MOST_PLANS];
        final Parcel[] parcels = new Parcel[MOST_PARCELS];
        final int[] carriers = new int[MOST_PLACES];
        final int[] dropOrder = new int[MOST_PARCELS];
        final int[] verdictCounts = new int[VERDICTS];

        State() {
            for (int i = 0; i < MOST_STATIONS; i++) {
                stations[i] = new Station();
            }
            for (int i = 0; i < MOST_CHUTES; i++) {
                chutes[i] = new Chute();
            }
            for (int i = 0; i < MOST_PARCELS; i++) {
                parcels[i] = new Parcel();
            }
            reset(FEWEST_PLACES);
        }

        void reset(int places) {
            this.places = places;
            time = 0;
            foremost = 0;
            stationCount = 0;
            chuteCount = 0;
            planCount = 0;
            parcelCount = 0;
            droppedCount = 0;
            roundCount = 0;
            Arrays.fill(carriers, NONE);
            Arrays.fill(verdictCounts, 0);
        }

        void copyFrom(State other) {
            time = other.time;
            places = other.places;
            foremost = other.foremost;
            stationCount = other.stationCount;
            chuteCount = other.chuteCount;
            planCount = other.planCount;
            parcelCount = other.parcelCount;
            droppedCount = other.droppedCount;
            roundCount = other.roundCount;
            copyParts(other);
            System.arraycopy(other.carriers, 0, carriers, 0, MOST_PLACES);
            System.arraycopy(other.dropOrder, 0, dropOrder, 0, MOST_PARCELS);
            System.arraycopy(other.verdictCounts, 0, verdictCounts, 0, VERDICTS);
        }

        private void copyParts(State other) {
            for (int i = 0; i < stationCount; i++) {
                stations[i].copyFrom(other.stations[i]);
            }
            for (int i = 0; i < chuteCount; i++) {
                chutes[i].copyFrom(other.chutes[i]);
            }
            for (int i = 0; i < planCount; i++) {
                plans[i] = other.plans[i];
            }
            for (int i = 0; i < parcelCount; i++) {
                parcels[i].copyFrom(other.parcels[i]);
            }
        }

        // -- building

        boolean isFree(int place) {
            if (!isIn(place, 1, places - 1)) {
                return false;
            }
            for (int i = 0; i < stationCount; i++) {
                if (stations[i].place == place) {
                    return false;
                }
            }
            for (int i = 0; i < chuteCount; i++) {
                if (chutes[i].place == place) {
                    return false;
                }
            }
            return true;
        }

        int putStation(int place) {
            stations[stationCount].reset(place);
            stationCount++;
            return stationCount - 1;
        }

        Chute putChute() {
            Chute chute = chutes[chuteCount];
            chute.reset();
            chuteCount++;
            return chute;
        }

        int putParcel(int station, int destination) {
            int serial = 0;
            for (int i = 0; i < parcelCount; i++) {
                if (parcels[i].destination == destination) {
                    serial++;
                }
            }
            parcels[parcelCount].reset(station, destination, serial);
            stations[station].append(parcelCount);
            parcelCount++;
            return parcelCount - 1;
        }

        // -- plans, in ascending order of their first ticks

        private int plansUntil(int tick) {
            int sum = 0;
            for (int i = 0; i < planCount; i++) {
                if (plans[i].firstTick <= tick) {
                    sum++;
                }
            }
            return sum;
        }

        Plan planOf(int tick) {
            int sum = plansUntil(tick);
            return sum > 0 ? plans[sum - 1] : null;
        }

        boolean hasPlanFrom(int tick) {
            Plan plan = planOf(tick);
            return plan != null && plan.firstTick == tick;
        }

        void putPlan(Plan plan) {
            int slot = plansUntil(plan.firstTick);
            if (hasPlanFrom(plan.firstTick)) {
                plans[slot - 1] = plan;
            } else if (planCount < MOST_PLANS) {
                for (int i = planCount; i > slot; i--) {
                    plans[i] = plans[i - 1];
                }
                plans[slot] = plan;
                planCount++;
            }
        }

        // -- carriers

        private int carrierAt(int place) {
            int carrier = foremost + place;
            return carrier < places ? carrier : carrier - places;
        }

        int placeOf(int carrier) {
            int place = carrier - foremost;
            return place >= 0 ? place : place + places;
        }

        int parcelAt(int place) {
            return carriers[carrierAt(place)];
        }

        private boolean isParcel(int number) {
            return isIn(number, 0, parcelCount - 1);
        }

        // -- a tick

        void passTick() {
            time++;
            for (int i = 0; i < chuteCount; i++) {
                chutes[i].passTick();
            }
            foremost = foremost > 0 ? foremost - 1 : places - 1;
            int atScanner = parcelAt(0);
            if (isParcel(atScanner)) {
                scan(parcels[atScanner]);
            }
            for (int i = 0; i < chuteCount; i++) {
                int parcel = parcelAt(chutes[i].place);
                if (isParcel(parcel) && parcels[parcel].target == i) {
                    tryParcel(i, parcel);
                }
            }
            for (int i = 0; i < stationCount; i++) {
                load(stations[i]);
            }
        }

        private void scan(Parcel parcel) {
            parcel.scans++;
            if (parcel.scans > 1) {
                roundCount++;
            }
            parcel.target = NONE;
            Plan plan = planOf(time);
            if (plan == null) {
                parcel.reason = REASON_NO_PLAN;
            } else if (parcel.condition == UNREADABLE) {
                aimAtException(parcel, plan.exception, REASON_UNREADABLE);
            } else if (parcel.rounds() > plan.bound) {
                aimAtException(parcel, plan.exception, REASON_ROUNDS);
            } else {
                aimByRule(parcel, plan);
            }
        }

        private void aimByRule(Parcel parcel, Plan plan) {
            int rule = plan.ruleOf(parcel.destinationAsRead());
            if (rule == NONE) {
                aimAtException(parcel, plan.exception, REASON_NO_RULE);
                return;
            }
            for (int i = 0; i < plan.chuteCounts[rule]; i++) {
                int chute = plan.chuteIn(rule, i);
                if (isOpenFor(chute, parcel)) {
                    parcel.target = chute;
                    parcel.reason = i == 0 ? REASON_FIRST : REASON_OTHER;
                    return;
                }
            }
            parcel.reason = REASON_NO_CHUTE;
        }

        private void aimAtException(Parcel parcel, int chute, int reason) {
            if (isOpenFor(chute, parcel)) {
                parcel.target = chute;
                parcel.reason = reason;
            } else {
                parcel.reason = reason + REASON_NO_EXCEPTION;
            }
        }

        private boolean isOpenFor(int chute, Parcel parcel) {
            return isIn(chute, 0, chuteCount - 1) && chutes[chute].isUsable() && !parcel.isSpoiltFor(chute);
        }

        private void tryParcel(int number, int parcelNumber) {
            Chute chute = chutes[number];
            Parcel parcel = parcels[parcelNumber];
            // whether it is dropped or stays on its carrier, it has no target afterwards
            parcel.target = NONE;
            if (!chute.isUsable()) {
                chute.passes++;
            } else if (parcel.weight > chute.limit) {
                parcel.spoil(number);
                chute.jam();
            } else if (chute.isWithinGap(time)) {
                chute.jam();
            } else {
                drop(number, parcelNumber);
            }
        }

        private void drop(int number, int parcelNumber) {
            Parcel parcel = parcels[parcelNumber];
            carriers[carrierAt(chutes[number].place)] = NONE;
            parcel.whereabouts = DROPPED;
            parcel.spot = number;
            parcel.dropTick = time;
            parcel.verdict = verdictOf(parcel, number);
            chutes[number].receive(time);
            verdictCounts[parcel.verdict]++;
            enter(parcelNumber);
        }

        private void enter(int parcelNumber) {
            if (droppedCount < MOST_PARCELS) {
                dropOrder[droppedCount] = parcelNumber;
                droppedCount++;
            }
        }

        private int verdictOf(Parcel parcel, int chute) {
            Plan plan = planOf(time);
            if (plan != null && plan.exception == chute) {
                return VERDICT_EXCEPTION;
            }
            int rule = plan != null ? plan.ruleOf(parcel.destination) : NONE;
            if (rule != NONE && plan.hasChute(rule, chute)) {
                return VERDICT_RIGHT;
            }
            return parcel.condition == WORN ? VERDICT_MISREAD : VERDICT_WRONG;
        }

        private void load(Station station) {
            int carrier = carrierAt(station.place);
            int number = station.firstWaiting();
            if (carriers[carrier] == NONE && isParcel(number)) {
                station.releaseFirst();
                carriers[carrier] = number;
                parcels[number].whereabouts = ON_LOOP;
                parcels[number].spot = carrier;
            }
        }

        // -- counts

        boolean isEmpty() {
            return droppedCount == parcelCount;
        }

        int waitingInStations() {
            int sum = 0;
            for (int i = 0; i < stationCount; i++) {
                sum += stations[i].waitingCount;
            }
            return sum;
        }

        int carriedOnLoop() {
            int sum = 0;
            for (int i = 0; i < places; i++) {
                if (carriers[i] != NONE) {
                    sum++;
                }
            }
            return sum;
        }

        int parcelsAimedAt(int chute) {
            int sum = 0;
            for (int i = 0; i < parcelCount; i++) {
                if (parcels[i].target == chute) {
                    sum++;
                }
            }
            return sum;
        }

        int jamsOfChutes() {
            int sum = 0;
            for (int i = 0; i < chuteCount; i++) {
                sum += chutes[i].jams;
            }
            return sum;
        }

        int bagsOfChutes() {
            int sum = 0;
            for (int i = 0; i < chuteCount; i++) {
                sum += chutes[i].bags;
            }
            return sum;
        }

        int greatestRounds() {
            int greatest = 0;
            for (int i = 0; i < parcelCount; i++) {
                greatest = Math.max(greatest, parcels[i].rounds());
            }
            return greatest;
        }

        int roundsOfDropped() {
            int sum = 0;
            for (int i = 0; i < parcelCount; i++) {
                if (parcels[i].whereabouts == DROPPED) {
                    sum += parcels[i].rounds();
                }
            }
            return sum;
        }

        // -- the audit, which counts from the parcels alone

        int parcelsThatAre(int whereabouts) {
            int sum = 0;
            for (int i = 0; i < parcelCount; i++) {
                if (parcels[i].whereabouts == whereabouts) {
                    sum++;
                }
            }
            return sum;
        }

        boolean chutesAgree() {
            for (int i = 0; i < chuteCount; i++) {
                int sum = 0;
                for (int j = 0; j < parcelCount; j++) {
                    if (parcels[j].whereabouts == DROPPED && parcels[j].spot == i) {
                        sum++;
                    }
                }
                if (sum != chutes[i].drops) {
                    return false;
                }
            }
            return true;
        }

        boolean verdictsAgree() {
            for (int i = 0; i < VERDICTS; i++) {
                int sum = 0;
                for (int j = 0; j < parcelCount; j++) {
                    if (parcels[j].verdict == i) {
                        sum++;
                    }
                }
                if (sum != verdictCounts[i]) {
                    return false;
                }
            }
            return true;
        }

        boolean roundsAgree() {
            int sum = 0;
            for (int i = 0; i < parcelCount; i++) {
                sum += parcels[i].rounds();
            }
            return sum == roundCount;
        }
    }
}
