/** The boundary cases of "Loop" and of promises 1 to 4 and 12: build, addStation, addChute, carried. */
public final class LoopEdgeTest {
    private static final int LEAST = Integer.MIN_VALUE;
    private static final int GREATEST = Integer.MAX_VALUE;

    public static void main(String[] args) {
        newObject();
        newObjectHasNothing();
        places();
        placesAreRefused();
        buildAnswersTheParcels();
        buildForgets();
        builtAsNew();
        buildKeeps();
        everyCarrierMoves();
        fullLoop();
        scanner();
        emptyStation();
        stationPlaces();
        threeStations();
        chutePlaces();
        chuteArguments();
        eightChutes();
        emptyChute();
        carried();
        Check.end();
    }

    // ---- promise 1

    private static void newObject() {
        Check.holds("1", "Creates a sorter with a loop of 12 places, without stations, chutes, plans and parcels.");
        ParcelSorter x = new ParcelSorter();
        int[] counts = {0, 12, 0, 0, 0, 0, 0, 0, 0, 0, 0, 0, 0, 0, 0, 0, 0};
        for (int what = 0; what <= 16; what++) {
            Check.same("count " + what, counts[what], x.count(what));
        }
        for (int place = 0; place < 12; place++) {
            int p = place;
            Check.refuses("carrier at " + p, Check.NONE, () -> x.carried(p));
        }
        Check.refuses("a thirteenth place", Check.INDEX, () -> x.carried(12));
        Check.refuses("a station there", Check.RANGE, () -> x.addStation(12));
        Check.same("a station at the last place", 0, x.addStation(11));
    }

    private static void newObjectHasNothing() {
        Check.holds("1", "without stations, chutes, plans and parcels");
        Twin.refused("station", Check.INDEX, Scene.NEW, x -> x.station(0, 0));
        Twin.refused("arrive", Check.INDEX, Scene.NEW, x -> x.arrive(0, 0, 1, 0));
        Twin.refused("chute", Check.INDEX, Scene.NEW, x -> x.chute(0, 0));
        Twin.refused("setClosed", Check.INDEX, Scene.NEW, x -> x.setClosed(0, true));
        Twin.refused("clear", Check.INDEX, Scene.NEW, x -> x.clear(0));
        Twin.refused("plan", Check.INDEX, Scene.NEW, x -> x.plan(0, 0));
        Twin.refused("write", Check.INDEX, Scene.NEW, x -> x.write(0));
        Twin.refused("route", Check.STATE, Scene.NEW, x -> x.route(0, 0, -1));
        Twin.refused("parcel", Check.INDEX, Scene.NEW, x -> x.parcel(0, 0));
        Twin.refused("find", Check.NONE, Scene.NEW, x -> x.find(0, 0));
        Twin.refused("foresee", Check.INDEX, Scene.NEW, x -> x.foresee(0, 1, true));
        Twin.refused("ledger", Check.INDEX, Scene.NEW, x -> x.ledger(0, 0));
        Twin.refused("meanRounds", Check.ARITHMETIC, Scene.NEW, x -> x.meanRounds());
        Twin.refused("undo", Check.STATE, Scene.NEW, x -> x.undo());
        Twin.refused("restoreSnapshot", Check.STATE, Scene.NEW, x -> x.restoreSnapshot());
        Twin.refused("paper", Check.INDEX, Scene.NEW, x -> x.paper(0));
    }

    // ---- promise 2

    private static void places() {
        Check.holds("Loop", "The loop has 12 to 30 places, numbered from 0, and as many carriers");
        for (int places = 12; places <= 30; places++) {
            ParcelSorter x = new ParcelSorter();
            Check.same("build", 0, x.build(places));
            Check.same("places", places, x.count(1));
            Check.refuses("the first carrier", Check.NONE, () -> x.carried(0));
            int last = places - 1;
            Check.refuses("the last carrier", Check.NONE, () -> x.carried(last));
            Check.refuses("one more", Check.INDEX, () -> x.carried(last + 1));
            Check.refuses("a station at it", Check.RANGE, () -> x.addStation(last + 1));
            Check.refuses("a chute at it", Check.RANGE, () -> x.addChute(last + 1, 1, 0, 1, 1, 0));
            Check.same("a chute at the last place", 0, x.addChute(last, 1, 0, 1, 1, 0));
        }
    }

    private static void placesAreRefused() {
        Check.holds("2", "Throws `IllegalArgumentException` if places is not from 12 to 30");
        for (int places : new int[] {11, 31, 0, -1, -12, LEAST, GREATEST}) {
            Twin.refused("build " + places, Check.RANGE, Scene.BUSY, x -> x.build(places));
            Twin.refused("build " + places, Check.RANGE, Scene.NEW, x -> x.build(places));
        }
        Check.same("12", 0, new ParcelSorter().build(12));
        Check.same("30", 0, new ParcelSorter().build(30));
    }

    private static void buildAnswersTheParcels() {
        Check.holds("2", "Returns the number of parcels that there were.");
        ParcelSorter x = Scene.line();
        Scene.arrive(x, 1);
        Check.same("one", 1, x.build(12));
        Check.same("none any more", 0, x.build(12));
        Check.same("60", 60, Scene.FULL.get().build(30));
        Check.same("60 that were dropped", 60, Scene.ALL_DROPPED.get().build(12));
    }

    private static void buildForgets() {
        Check.holds("2", "Makes a new loop without stations, chutes, plans and parcels.");
        ParcelSorter x = Scene.FULL.get();
        x.build(12);
        for (int what = 2; what <= 16; what++) {
            Check.same("count " + what, 0, x.count(what));
        }
        Check.same("places", 12, x.count(1));
        for (int place = 0; place < 12; place++) {
            int p = place;
            Check.refuses("carrier at " + p, Check.NONE, () -> x.carried(p));
        }
        for (int i = 0; i < 8; i++) {
            Check.same("room for chutes", i, x.addChute(1 + i, 1, 0, 50, 1, 0));
        }
        for (int i = 0; i < 3; i++) {
            Check.same("room for stations", i, x.addStation(9 + i));
        }
        for (int i = 0; i < 10; i++) {
            Check.same("room in the station", i, x.arrive(2, 5, 1, 0));
            Check.same("serial numbers from 0", i, x.parcel(i, 1));
        }
        Check.same("the input stays full and fits now", 1, x.addPlan());
        Check.same("dropped as in a new loop", 10, x.run(100));
        Check.same("the first one at tick", 3, x.ledger(0, 2));
        Check.same("ledger from 0", 0, x.ledger(0, 0));
        Check.same("mean", 0.0, x.meanRounds());
    }

    /** What stood there before has left nothing behind in what comes into its place. */
    private static void builtAsNew() {
        Check.holds("2", "Makes a new loop without stations, chutes, plans and parcels.");
        Twin.becomes("built anew", () -> built(new ParcelSorter()), () -> built(usedAnew()), x -> { });
        Twin.becomes("built after all were dropped", () -> built(new ParcelSorter()),
            () -> built(Scene.ALL_DROPPED.get()), x -> { });
        Twin.becomes("built in the midst of everything", () -> built(new ParcelSorter()), () -> built(Scene.midst()),
            x -> { });
    }

    private static ParcelSorter usedAnew() {
        ParcelSorter x = new ParcelSorter();
        Scene.useAnew(x);
        return x;
    }

    private static ParcelSorter built(ParcelSorter x) {
        x.build(12);
        for (int i = 0; i < 8; i++) {
            x.addChute(1 + i, 2, 0, 50, 1, 0);
        }
        for (int i = 0; i < 3; i++) {
            x.addStation(9 + i);
        }
        for (int i = 0; i < 30; i++) {
            x.arrive(i % 3, i, 1, 0);
        }
        Check.addPlan(x, "@4:0-2=0;3-5=1;6-8=2;9-11=3;12-14=4;15-17=5;18-20=6;21-29=7x0");
        return x;
    }

    private static void buildKeeps() {
        Check.holds("2", "The time is 0, and no changes can be undone; the input, the paper and the snapshot stay.");
        ParcelSorter x = Scene.BUSY.get();
        x.build(30);
        Check.same("time", 0, x.count(0));
        Check.refuses("undo", Check.STATE, () -> x.undo());
        Check.same("the paper", "@20:0-49=2;50-99=0,1x1", Check.paper(x, 22));
        Check.refuses("its end", Check.INDEX, () -> x.paper(22));
        for (int i = 0; i < 4; i++) {
            x.addChute(1 + i, 1, 0, 50, 1, 0);
        }
        Check.same("the input", 12, x.feed('='));
        Check.feed(x, "3x2");
        Check.same("as a plan", 1, x.addPlan());
        Check.same("its text", "@77:5-6=1;8=3x2", Check.written(x, 0));
        Check.same("undo what came after it", 4, x.undo());
        Check.same("the snapshot", 1, x.restoreSnapshot());
        Check.same("its places", 14, x.count(1));
        Check.same("its parcel", 1, x.count(5));
        ParcelSorter y = Scene.FULL.get();
        y.build(30);
        Check.refuses("a full input stays full", Check.STATE, () -> y.feed('@'));
        Check.refuses("without a snapshot there is none", Check.STATE, () -> y.restoreSnapshot());
        ParcelSorter z = new ParcelSorter();
        z.build(12);
        Check.refuses("build is no change", Check.STATE, () -> z.undo());
    }

    // ---- the loop

    private static void everyCarrierMoves() {
        Check.holds("Loop", "with each tick each carrier moves to the next place, from the last one to place 0");
        for (int places : new int[] {12, 13, 29, 30}) {
            ParcelSorter x = new ParcelSorter();
            x.build(places);
            x.addStation(places - 1);
            Scene.arrive(x, 1);
            x.run(1);
            Check.same("at the last place", 0, x.carried(places - 1));
            for (int tick = 0; tick <= 2 * places; tick++) {
                int place = tick % places;
                x.run(1);
                Check.same("it moved", 0, x.carried(place));
                Check.same("its place", place, x.parcel(0, 5));
                Check.refuses("where it was", Check.NONE, () -> x.carried(place > 0 ? place - 1 : places - 1));
                Check.refuses("before it", Check.NONE, () -> x.carried((place + 1) % places));
            }
        }
    }

    private static void fullLoop() {
        Check.holds("Loop", "A carrier carries one parcel or none.");
        for (int places : new int[] {12, 30}) {
            ParcelSorter x = new ParcelSorter();
            x.build(places);
            int third = places / 3;
            for (int i = 1; i <= 3; i++) {
                x.addStation(i * third - 1);
            }
            for (int i = 0; i < 30; i++) {
                x.arrive(i % 3, i, 1, 0);
            }
            x.run(third - 1);
            Check.same("one carrier of each third is empty", places - 3, x.count(7));
            x.run(1);
            Check.same("no carrier is empty", places, x.count(7));
            for (int place = 0; place < places; place++) {
                Check.same("where it is", place, x.parcel(x.carried(place), 5));
            }
            for (int i = 0; i < 3; i++) {
                x.arrive(i, 0, 1, 0);
            }
            x.run(100);
            Check.same("no more than that", places, x.count(7));
            Check.same("the others wait", 33 - places, x.count(6));
        }
    }

    private static void scanner() {
        Check.holds("Loop", "The scanner is at place 0.");
        for (int places : new int[] {12, 30}) {
            ParcelSorter x = new ParcelSorter();
            x.build(places);
            x.addStation(1);
            Scene.arrive(x, 1);
            x.run(places - 1);
            Check.same("at the last place", places - 1, x.parcel(0, 5));
            Check.same("no scan", 0, x.parcel(0, 6));
            x.run(1);
            Check.same("at place 0", 0, x.parcel(0, 5));
            Check.same("a scan", 1, x.parcel(0, 6));
            x.run(places - 1);
            Check.same("no other scan elsewhere", 1, x.parcel(0, 6));
            x.run(1);
            Check.same("the next one", 2, x.parcel(0, 6));
        }
    }

    // ---- promise 3

    private static void emptyStation() {
        Check.holds("3", "Adds a station.");
        int[] due = {11, 0, -1, 0};
        ParcelSorter x = new ParcelSorter();
        x.addStation(11);
        ParcelSorter y = Scene.oneWaits();
        y.run(20);
        Scene.arrive(y, 2);
        y.build(12);
        y.addStation(11);
        for (int what = 0; what < due.length; what++) {
            Check.same("property " + what, due[what], x.station(0, what));
            Check.same("after a build, property " + what, due[what], y.station(0, what));
        }
        Check.same("stations", 1, x.count(2));
    }

    private static void stationPlaces() {
        Check.holds("3", "Throws `IllegalArgumentException` if place is 0, is no place, or a station or chute is there");
        for (int place : new int[] {0, 14, -1, 15, 30, LEAST, GREATEST, 12, 10, 2, 4, 6, 8}) {
            Twin.refused("addStation " + place, Check.RANGE, Scene.BUSY, x -> x.addStation(place));
        }
        for (int place : new int[] {0, 12, -1, LEAST, GREATEST}) {
            Twin.refused("addStation " + place, Check.RANGE, Scene.NEW, x -> x.addStation(place));
        }
        for (int place = 1; place <= 11; place++) {
            Check.same("addStation " + place, 0, new ParcelSorter().addStation(place));
        }
        ParcelSorter x = Scene.BUSY.get();
        Check.same("the first place", 2, x.addStation(1));
        Check.same("is its place", 1, x.station(2, 0));
        ParcelSorter y = Scene.BUSY.get();
        Check.same("the last place", 2, y.addStation(13));
        Check.same("is its place", 13, y.station(2, 0));
        y.undo();
        Check.same("free again", 2, y.addStation(13));
    }

    private static void threeStations() {
        Check.holds("3", "Throws `IllegalStateException` if there are 3 stations");
        ParcelSorter x = new ParcelSorter();
        Check.holds("3", "Returns the number of the station.");
        for (int i = 0; i < 3; i++) {
            Check.same("a station", i, x.addStation(1 + i));
            Check.same("its place", 1 + i, x.station(i, 0));
        }
        Check.refuses("a fourth", Check.STATE, () -> x.addStation(4));
        Check.same("one undone", 2, x.undo());
        Check.same("room again", 2, x.addStation(4));
        Check.same("its place", 4, x.station(2, 0));
        Check.holds("Loop", "There are at most 3 stations and 8 chutes, numbered from 0, each at a place other than 0");
        Twin.refused("a fourth", Check.STATE, Scene.FULL, y -> y.addStation(10));
        Twin.refused("at the last free place", Check.STATE, Scene.FULL, y -> y.addStation(28));
        Check.holds("Exceptions", "If several exceptions apply, the one that is documented first is thrown.");
        for (int place : new int[] {0, 30, -1, 29, 1, 8}) {
            Twin.refused("the place goes first: " + place, Check.RANGE, Scene.FULL, y -> y.addStation(place));
        }
    }

    // ---- promise 4

    private static void chutePlaces() {
        Check.holds("4", "Throws `IllegalArgumentException` if place is 0, is no place, or a station or chute is there");
        for (int place : new int[] {0, 14, -1, 15, 30, LEAST, GREATEST, 12, 10, 2, 4, 6, 8}) {
            Twin.refused("addChute " + place, Check.RANGE, Scene.BUSY, x -> x.addChute(place, 1, 0, 1, 1, 0));
        }
        for (int place = 1; place <= 11; place++) {
            Check.same("addChute " + place, 0, new ParcelSorter().addChute(place, 1, 0, 1, 1, 0));
        }
        ParcelSorter x = Scene.BUSY.get();
        Check.holds("4", "Returns the number of the chute.");
        Check.same("the first place", 4, x.addChute(1, 1, 0, 1, 1, 0));
        Check.same("the last place", 5, x.addChute(13, 1, 0, 1, 1, 0));
        Check.same("is its place", 13, x.chute(5, 0));
        Check.holds("Loop", "no two of them have the same place");
        Check.refuses("a chute at a chute", Check.RANGE, () -> x.addChute(13, 1, 0, 1, 1, 0));
        Check.refuses("a station at a chute", Check.RANGE, () -> x.addStation(13));
        Check.refuses("a chute at a station", Check.RANGE, () -> x.addChute(12, 1, 0, 1, 1, 0));
        Check.refuses("a station at a station", Check.RANGE, () -> x.addStation(12));
    }

    private static void chuteArguments() {
        Check.holds("Chutes", "A chute has a capacity from 1 to 20, a gap from 0 to 5, a limit from 1 to 50, "
            + "a clearing time from 1 to 9 and a swap time from 0 to 9.");
        int[] least = {1, 1, 0, 1, 1, 0};
        int[] greatest = {13, 20, 5, 50, 9, 9};
        Check.same("the least ones", 4, add(Scene.BUSY.get(), least));
        Check.same("the greatest ones", 4, add(Scene.BUSY.get(), greatest));
        Check.holds("4", "or another argument is out of range");
        for (int i = 1; i < 6; i++) {
            for (int bad : new int[] {least[i] - 1, greatest[i] + 1, LEAST, GREATEST}) {
                for (int[] good : new int[][] {least, greatest}) {
                    int[] args = good.clone();
                    args[i] = bad;
                    Twin.refused("argument " + i + " is " + bad, Check.RANGE, Scene.BUSY, x -> add(x, args));
                }
            }
        }
    }

    private static int add(ParcelSorter x, int[] a) {
        return x.addChute(a[0], a[1], a[2], a[3], a[4], a[5]);
    }

    private static void eightChutes() {
        Check.holds("4", "Throws `IllegalStateException` if there are 8 chutes");
        ParcelSorter x = new ParcelSorter();
        for (int i = 0; i < 8; i++) {
            Check.same("a chute", i, x.addChute(11 - i, 1, 0, 1, 1, 0));
            Check.same("its place", 11 - i, x.chute(i, 0));
        }
        Check.refuses("a ninth", Check.STATE, () -> x.addChute(3, 1, 0, 1, 1, 0));
        Check.same("a station has room yet", 0, x.addStation(3));
        x.undo();
        x.undo();
        Check.same("room again", 7, x.addChute(3, 1, 0, 1, 1, 0));
        Twin.refused("a ninth", Check.STATE, Scene.FULL, y -> y.addChute(10, 1, 0, 1, 1, 0));
        Twin.refused("with the greatest arguments", Check.STATE, Scene.FULL, y -> y.addChute(28, 20, 5, 50, 9, 9));
        Check.holds("Exceptions", "If several exceptions apply, the one that is documented first is thrown.");
        int[] good = {10, 1, 0, 1, 1, 0};
        int[] bad = {0, 0, -1, 51, 10, -1};
        for (int i = 0; i < 6; i++) {
            int[] args = good.clone();
            args[i] = bad[i];
            Twin.refused("argument " + i + " goes first", Check.RANGE, Scene.FULL, y -> add(y, args));
        }
        Twin.refused("an occupied place goes first", Check.RANGE, Scene.FULL, y -> y.addChute(9, 1, 0, 1, 1, 0));
    }

    private static void emptyChute() {
        Check.holds("4", "Adds an empty chute.");
        int[] due = {5, 0, 0, 0, 0, 1, -1, 0, 0, 0, 0, 0};
        for (int capacity : new int[] {1, 20}) {
            ParcelSorter x = new ParcelSorter();
            x.addChute(5, capacity, 5, 1, 9, 9);
            for (int what = 0; what < due.length; what++) {
                Check.same("property " + what, due[what], x.chute(0, what));
            }
        }
        ParcelSorter y = Scene.lineTo(1, 0, 50, 9, 9);
        y.setClosed(0, true);
        Scene.arrive(y, 1);
        y.run(20);
        y.build(12);
        y.addChute(5, 1, 5, 1, 9, 9);
        for (int what = 0; what < due.length; what++) {
            Check.same("after a build, property " + what, due[what], y.chute(0, what));
        }
    }

    // ---- promise 12

    private static void carried() {
        Check.holds("12", "Throws `IndexOutOfBoundsException` if there is no such place");
        for (int place : new int[] {-1, 14, 15, 30, LEAST, GREATEST}) {
            Twin.refused("carried " + place, Check.INDEX, Scene.BUSY, x -> x.carried(place));
        }
        Twin.refused("carried 12", Check.INDEX, Scene.NEW, x -> x.carried(12));
        Twin.refused("carried 30", Check.INDEX, Scene.FULL, x -> x.carried(30));
        Check.holds("12", "Throws `NoSuchElementException` if the carrier is empty");
        Twin.refused("carried 0", Check.NONE, Scene.NEW, x -> x.carried(0));
        Twin.refused("carried 11", Check.NONE, Scene.NEW, x -> x.carried(11));
        Twin.refused("where one waits", Check.NONE, Scene::oneWaits, x -> x.carried(11));
        Check.holds("12", "Returns the parcel on the carrier at a place.");
        ParcelSorter x = Scene.FULL.get();
        Check.same("the first place", x.carried(0), numberAt(x, 0));
        Check.same("the last place", x.carried(29), numberAt(x, 29));
        Twin.unchanged("carried", Scene.FULL, y -> y.carried(29));
        Check.holds("12", "Returns the parcel.");
        ParcelSorter z = Scene.oneWaits();
        z.run(1);
        Check.same("put on", 0, z.carried(11));
    }

    private static int numberAt(ParcelSorter x, int place) {
        for (int i = 0; i < x.count(5); i++) {
            if (x.parcel(i, 4) == 1 && x.parcel(i, 5) == place) {
                return i;
            }
        }
        return -1;
    }
}
