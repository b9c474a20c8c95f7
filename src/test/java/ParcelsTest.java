/** Promises 9 to 12 and 17: arrive, find, parcel, carried, station. */
public final class ParcelsTest {
    public static void main(String[] args) {
        arrive();
        tooMany();
        find();
        parcel();
        carried();
        station();
        loadingInOrder();
        Check.end();
    }

    private static void arrive() {
        ParcelSorter x = new ParcelSorter();
        Check.refuses("no station", Check.INDEX, () -> x.arrive(0, 1, 1, 0));
        x.addStation(5);
        x.addStation(3);
        Check.refuses("station 2", Check.INDEX, () -> x.arrive(2, 1, 1, 0));
        Check.refuses("station -1 goes first", Check.INDEX, () -> x.arrive(-1, 100, 0, 9));
        for (int bad : new int[] {-1, 100, Integer.MAX_VALUE, Integer.MIN_VALUE}) {
            Check.refuses("destination " + bad, Check.RANGE, () -> x.arrive(0, bad, 1, 0));
        }
        for (int bad : new int[] {0, 51, -1, Integer.MAX_VALUE}) {
            Check.refuses("weight " + bad, Check.RANGE, () -> x.arrive(0, 1, bad, 0));
        }
        for (int bad : new int[] {-1, 3, Integer.MIN_VALUE}) {
            Check.refuses("condition " + bad, Check.RANGE, () -> x.arrive(0, 1, 1, bad));
        }
        Check.same("none came", 0, x.count(5));
        Check.same("least", 0, x.arrive(1, 0, 1, 0));
        Check.same("greatest", 1, x.arrive(0, 99, 50, 2));
        Check.same("parcels", 2, x.count(5));
        Check.same("waiting", 2, x.count(6));
        Check.same("four changes", 3, x.undo());
    }

    private static void tooMany() {
        ParcelSorter x = new ParcelSorter();
        x.addStation(5);
        x.addStation(3);
        for (int i = 0; i < 10; i++) {
            x.arrive(0, i, 1, 0);
        }
        Check.refuses("10 wait", Check.STATE, () -> x.arrive(0, 1, 1, 0));
        Check.refuses("range goes first", Check.RANGE, () -> x.arrive(0, 1, 51, 0));
        Check.same("another station", 10, x.arrive(1, 1, 1, 0));
        x.run(1);
        Check.same("one left", 11, x.arrive(0, 1, 1, 0));
        Check.refuses("10 wait again", Check.STATE, () -> x.arrive(0, 1, 1, 0));
        fillUp();
    }

    private static void fillUp() {
        ParcelSorter x = new ParcelSorter();
        x.build(30);
        x.addStation(1);
        x.addStation(11);
        x.addStation(21);
        x.addChute(25, 20, 0, 50, 1, 0);
        Check.addPlan(x, "@0:0-99=0x0");
        for (int i = 0; i < 60; i++) {
            Check.same("number", i, x.arrive(i % 3, i % 7, 1, 0));
            if (i % 30 == 29) {
                x.run(100);
            }
        }
        Check.same("all are dropped", 60, x.count(8));
        Check.refuses("a 61st, though there is room", Check.STATE, () -> x.arrive(0, 1, 1, 0));
        Check.refuses("range goes first", Check.RANGE, () -> x.arrive(0, 100, 1, 0));
        Check.refuses("index goes first", Check.INDEX, () -> x.arrive(3, 1, 1, 0));
        Check.same("60", 60, x.count(5));
        Check.same("the last one", 59, x.find(3, 8));
    }

    private static void find() {
        ParcelSorter x = new ParcelSorter();
        Check.refuses("none", Check.NONE, () -> x.find(1, 0));
        x.addStation(1);
        x.arrive(0, 7, 1, 0);
        x.arrive(0, 70, 1, 1);
        x.arrive(0, 7, 2, 1);
        x.arrive(0, 7, 2, 2);
        Check.same("7/0", 0, x.find(7, 0));
        Check.same("7/1", 2, x.find(7, 1));
        Check.same("7/2", 3, x.find(7, 2));
        Check.same("70/0", 1, x.find(70, 0));
        Check.refuses("7/3", Check.NONE, () -> x.find(7, 3));
        Check.refuses("7/-1", Check.NONE, () -> x.find(7, -1));
        Check.refuses("70/1", Check.NONE, () -> x.find(70, 1));
        Check.refuses("0/0", Check.NONE, () -> x.find(0, 0));
        Check.refuses("-1/0", Check.NONE, () -> x.find(-1, 0));
        Check.refuses("100/0", Check.NONE, () -> x.find(100, 0));
        Check.refuses("wild", Check.NONE, () -> x.find(Integer.MAX_VALUE, Integer.MIN_VALUE));
    }

    private static void parcel() {
        ParcelSorter x = new ParcelSorter();
        x.addStation(9);
        x.addStation(10);
        x.addChute(4, 3, 0, 20, 2, 0);
        Check.addPlan(x, "@0:0-99=0x0");
        x.arrive(1, 33, 20, 0);
        x.arrive(1, 33, 21, 1);
        Check.refuses("parcel 2", Check.INDEX, () -> x.parcel(2, 0));
        Check.refuses("parcel -1 goes first", Check.INDEX, () -> x.parcel(-1, 12));
        Check.refuses("what 12", Check.RANGE, () -> x.parcel(0, 12));
        Check.refuses("what -1", Check.RANGE, () -> x.parcel(1, -1));
        is(x, 0, 33, 0, 20, 0, 0, 1, 0, -1, -1, -1, -1, 0);
        is(x, 1, 33, 1, 21, 1, 0, 1, 0, -1, -1, -1, -1, 0);
        x.run(1);
        is(x, 0, 33, 0, 20, 0, 1, 10, 0, -1, -1, -1, -1, 0);
        is(x, 1, 33, 1, 21, 1, 0, 1, 0, -1, -1, -1, -1, 0);
        x.run(2);
        is(x, 0, 33, 0, 20, 0, 1, 0, 1, 0, 0, -1, -1, 0);
        is(x, 1, 33, 1, 21, 1, 1, 11, 0, -1, -1, -1, -1, 0);
        x.run(4);
        is(x, 0, 33, 0, 20, 0, 2, 0, 1, -1, 0, 7, 1, 0);
        x.run(1);
        is(x, 1, 33, 1, 21, 1, 1, 4, 1, -1, 0, -1, -1, 1);
        x.run(8);
        is(x, 1, 33, 1, 21, 1, 1, 0, 2, -1, 6, -1, -1, 1);
        is(x, 0, 33, 0, 20, 0, 2, 0, 1, -1, 0, 7, 1, 0);
    }

    private static void is(ParcelSorter x, int parcel, int... due) {
        for (int what = 0; what < due.length; what++) {
            Check.same("parcel " + parcel + ", " + what, due[what], x.parcel(parcel, what));
        }
    }

    private static void carried() {
        ParcelSorter x = new ParcelSorter();
        x.addStation(11);
        x.arrive(0, 5, 1, 0);
        x.arrive(0, 6, 1, 0);
        Check.refuses("still empty", Check.NONE, () -> x.carried(11));
        Check.refuses("place 12", Check.INDEX, () -> x.carried(12));
        Check.refuses("place -1", Check.INDEX, () -> x.carried(-1));
        x.run(1);
        Check.same("put on", 0, x.carried(11));
        x.run(1);
        Check.same("from the last place to 0", 0, x.carried(0));
        Check.same("the next one", 1, x.carried(11));
        x.run(5);
        Check.same("moved", 0, x.carried(5));
        Check.same("moved", 1, x.carried(4));
        Check.refuses("between", Check.NONE, () -> x.carried(6));
        x.run(7);
        Check.same("once round", 0, x.carried(0));
        Check.same("its place", 0, x.parcel(0, 5));
        Check.same("its place", 11, x.parcel(1, 5));
    }

    private static void station() {
        ParcelSorter x = new ParcelSorter();
        x.addStation(2);
        x.addStation(8);
        Check.same("place", 2, x.station(0, 0));
        Check.same("place", 8, x.station(1, 0));
        Check.same("none waits", 0, x.station(0, 1));
        Check.same("no first one", -1, x.station(0, 2));
        Check.same("none left", 0, x.station(0, 3));
        x.arrive(1, 1, 1, 0);
        x.arrive(0, 1, 1, 0);
        x.arrive(0, 1, 1, 0);
        Check.same("two wait", 2, x.station(0, 1));
        Check.same("the first one", 1, x.station(0, 2));
        Check.same("the first one", 0, x.station(1, 2));
        x.run(1);
        Check.same("one waits", 1, x.station(0, 1));
        Check.same("the next one", 2, x.station(0, 2));
        Check.same("one left", 1, x.station(0, 3));
        Check.same("one left", 1, x.station(1, 3));
        Check.same("none waits", -1, x.station(1, 2));
        x.run(50);
        Check.same("two left", 2, x.station(0, 3));
        Check.refuses("what 4", Check.RANGE, () -> x.station(0, 4));
        Check.refuses("what -1", Check.RANGE, () -> x.station(0, -1));
        Check.refuses("station 2", Check.INDEX, () -> x.station(2, 0));
        Check.refuses("station -1 goes first", Check.INDEX, () -> x.station(-1, 4));
    }

    private static void loadingInOrder() {
        ParcelSorter x = new ParcelSorter();
        x.addStation(6);
        x.addStation(5);
        for (int i = 0; i < 10; i++) {
            x.arrive(0, i, 1, 0);
        }
        x.arrive(1, 50, 1, 0);
        x.run(1);
        Check.same("station 1's", 10, x.carried(5));
        x.run(1);
        Check.same("an occupied carrier takes none", 10, x.carried(6));
        Check.same("so it waits", 9, x.station(0, 1));
        x.run(1);
        Check.same("the next empty one", 1, x.carried(6));
    }
}
