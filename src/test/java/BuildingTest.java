/** Promises 1 to 4: a new object, build, addStation, addChute. */
public final class BuildingTest {
    public static void main(String[] args) {
        newObject();
        build();
        buildKeepsInputPaperAndSnapshot();
        newOnesAreFresh();
        addStation();
        addChute();
        fullLoop();
        Check.end();
    }

    private static void newObject() {
        ParcelSorter x = new ParcelSorter();
        Check.same("time", 0, x.count(0));
        Check.same("places", 12, x.count(1));
        for (int what = 2; what <= 16; what++) {
            Check.same("new count " + what, 0, x.count(what));
        }
        for (int place = 0; place < 12; place++) {
            int p = place;
            Check.refuses("carried " + p, Check.NONE, () -> x.carried(p));
        }
        Check.refuses("carried 12", Check.INDEX, () -> x.carried(12));
        Check.refuses("undo", Check.STATE, () -> x.undo());
        Check.refuses("restore", Check.STATE, () -> x.restoreSnapshot());
        Check.refuses("paper", Check.INDEX, () -> x.paper(0));
        Check.refuses("plan", Check.INDEX, () -> x.plan(0, 0));
        Check.refuses("station", Check.INDEX, () -> x.station(0, 0));
        Check.refuses("chute", Check.INDEX, () -> x.chute(0, 0));
        Check.refuses("parcel", Check.INDEX, () -> x.parcel(0, 0));
        Check.same("empty input", 1, x.feed('@'));
    }

    private static void build() {
        ParcelSorter x = new ParcelSorter();
        for (int places : new int[] {11, 31, 0, -12, Integer.MIN_VALUE, Integer.MAX_VALUE}) {
            Check.refuses("build " + places, Check.RANGE, () -> x.build(places));
        }
        Check.same("build(30)", 0, x.build(30));
        Check.same("places", 30, x.count(1));
        x.addStation(29);
        x.addChute(5, 1, 0, 10, 1, 0);
        Check.addPlan(x, "@0:0-99=0x0");
        x.arrive(0, 1, 1, 0);
        x.arrive(0, 1, 1, 0);
        x.run(7);
        Check.same("drops before", 1, x.count(8));
        Check.same("a refused build keeps all", 2, refusedBuild(x));
        Check.same("build returns the parcels", 2, x.build(12));
        Check.same("places", 12, x.count(1));
        for (int what = 2; what <= 16; what++) {
            Check.same("count after build " + what, 0, x.count(what));
        }
        Check.same("time", 0, x.count(0));
        Check.refuses("undo after build", Check.STATE, () -> x.undo());
        Check.refuses("no entry", Check.INDEX, () -> x.ledger(0, 0));
        Check.refuses("no carrier", Check.INDEX, () -> x.carried(12));
        for (int place = 0; place < 12; place++) {
            int p = place;
            Check.refuses("empty carrier", Check.NONE, () -> x.carried(p));
        }
        Check.same("build again", 0, x.build(12));
    }

    private static int refusedBuild(ParcelSorter x) {
        Check.refuses("build(10)", Check.RANGE, () -> x.build(10));
        return x.count(5);
    }

    private static void buildKeepsInputPaperAndSnapshot() {
        ParcelSorter x = new ParcelSorter();
        x.addChute(3, 2, 0, 10, 1, 0);
        Check.addPlan(x, "@7:1=0x0");
        int length = x.write(0);
        x.run(4);
        x.saveSnapshot();
        Check.feed(x, "@9");
        x.build(20);
        Check.same("the input stays", 3, x.feed(':'));
        Check.same("the paper stays", "@7:1=0x0", Check.paper(x, length));
        Check.same("the snapshot stays", 4, x.restoreSnapshot());
        Check.same("its places", 12, x.count(1));
        Check.same("its chutes", 1, x.count(3));
        Check.same("its plans", 1, x.count(4));
    }

    /** What stood before a build leaves no trace in what is added after it. */
    private static void newOnesAreFresh() {
        for (int ticks = 0; ticks < 20; ticks++) {
            ParcelSorter x = new ParcelSorter();
            use(x, ticks);
            x.setClosed(0, true);
            x.build(12);
            ParcelSorter twin = new ParcelSorter();
            use(x, 0);
            use(twin, 0);
            Check.same("after " + ticks + " ticks", Check.everything(twin), Check.everything(x));
            x.run(20);
            twin.run(20);
            Check.same("and 20 more", Check.everything(twin), Check.everything(x));
        }
    }

    private static void use(ParcelSorter x, int ticks) {
        x.addStation(11);
        x.addChute(2, 1, 0, 10, 9, 9);
        x.addChute(4, 2, 3, 10, 9, 0);
        Check.addPlan(x, "@0:0-9=0;10-19=1x0");
        for (int i = 0; i < 8; i++) {
            x.arrive(0, i * 3, 7 + i, 0);
        }
        for (int i = 0; i < ticks; i++) {
            x.run(1);
        }
    }

    private static void addStation() {
        ParcelSorter x = new ParcelSorter();
        for (int place : new int[] {0, 12, -1, Integer.MIN_VALUE, Integer.MAX_VALUE}) {
            Check.refuses("addStation " + place, Check.RANGE, () -> x.addStation(place));
        }
        Check.same("first", 0, x.addStation(11));
        x.addChute(5, 1, 0, 1, 1, 0);
        Check.refuses("a station is there", Check.RANGE, () -> x.addStation(11));
        Check.refuses("a chute is there", Check.RANGE, () -> x.addStation(5));
        Check.same("second", 1, x.addStation(1));
        Check.same("third", 2, x.addStation(2));
        Check.refuses("a fourth", Check.STATE, () -> x.addStation(3));
        Check.refuses("range goes first", Check.RANGE, () -> x.addStation(0));
        Check.refuses("occupied goes first", Check.RANGE, () -> x.addStation(5));
        Check.same("stations", 3, x.count(2));
        Check.same("place", 1, x.station(1, 0));
        Check.same("four changes alone", 3, x.undo());
    }

    private static void addChute() {
        ParcelSorter x = new ParcelSorter();
        x.addStation(4);
        int[] good = {7, 20, 5, 50, 9, 9};
        int[][] bad = {
            {0, 12, 4, -1, Integer.MAX_VALUE}, {0, 21, -1}, {-1, 6}, {0, 51, -3}, {0, 10, -1}, {-1, 10}};
        for (int i = 0; i < bad.length; i++) {
            for (int value : bad[i]) {
                int[] args = good.clone();
                args[i] = value;
                Check.refuses("argument " + i + " is " + value, Check.RANGE, () -> add(x, args));
            }
        }
        Check.same("none was added", 0, x.count(3));
        Check.same("greatest arguments", 0, add(x, good));
        Check.same("least arguments", 1, add(x, new int[] {1, 1, 0, 1, 1, 0}));
        Check.refuses("a chute is there", Check.RANGE, () -> x.addChute(7, 1, 0, 1, 1, 0));
        Check.same("place", 7, x.chute(0, 0));
        int[] fresh = {1, 0, 0, 0, 0, 1, -1, 0, 0, 0, 0, 0};
        for (int what = 0; what < 12; what++) {
            Check.same("a new chute's " + what, fresh[what], x.chute(1, what));
        }
        for (int place : new int[] {2, 3, 5, 6, 8, 9}) {
            x.addChute(place, 1, 0, 1, 1, 0);
        }
        Check.refuses("a ninth", Check.STATE, () -> x.addChute(10, 1, 0, 1, 1, 0));
        Check.refuses("range goes first", Check.RANGE, () -> x.addChute(10, 0, 0, 1, 1, 0));
        Check.same("eight", 8, x.count(3));
    }

    private static int add(ParcelSorter x, int[] a) {
        return x.addChute(a[0], a[1], a[2], a[3], a[4], a[5]);
    }

    private static void fullLoop() {
        ParcelSorter x = new ParcelSorter();
        for (int place = 1; place <= 8; place++) {
            x.addChute(place, 1, 0, 1, 1, 0);
        }
        for (int place = 9; place <= 11; place++) {
            x.addStation(place);
        }
        Check.refuses("station, no place is free", Check.RANGE, () -> x.addStation(9));
        Check.refuses("chute, no place is free", Check.RANGE, () -> x.addChute(9, 1, 0, 1, 1, 0));
    }
}
