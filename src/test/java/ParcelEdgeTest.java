/** The boundary cases of "Parcels" and of promises 9, 10, 11 and 17: arrive, find, parcel, station. */
public final class ParcelEdgeTest {
    private static final int LEAST = Integer.MIN_VALUE;
    private static final int GREATEST = Integer.MAX_VALUE;

    public static void main(String[] args) {
        arriveAtNoStation();
        arriveArguments();
        sixtyParcels();
        tenWait();
        firstOfSeveral();
        firstInFirstOut();
        serialNumbers();
        find();
        parcelNumbers();
        parcelProperties();
        beforeAndAfter();
        whereItIs();
        wornParcels();
        target();
        spoiltSet();
        stationNumbers();
        stationProperties();
        Check.end();
    }

    // ---- promise 9

    private static void arriveAtNoStation() {
        Check.holds("9", "Throws `IndexOutOfBoundsException` if there is no such station");
        for (int station : new int[] {-1, 2, 3, LEAST, GREATEST}) {
            Twin.refused("station " + station, Check.INDEX, Scene.BUSY, x -> x.arrive(station, 0, 1, 0));
        }
        Twin.refused("station 3", Check.INDEX, Scene.ALL_DROPPED, x -> x.arrive(3, 0, 1, 0));
        Check.holds("9", "Returns the number of the parcel.");
        Check.holds("9", "Lets a parcel arrive at a station.");
        for (int station : new int[] {0, 1}) {
            ParcelSorter x = Scene.BUSY.get();
            int waiting = x.station(station, 1);
            Check.same("the first and the last station", 22, x.arrive(station, 0, 1, 0));
            Check.same("is where it waits", station, x.parcel(22, 5));
            Check.same("with the others", waiting + 1, x.station(station, 1));
        }
    }

    private static void arriveArguments() {
        Check.holds("Parcels", "A parcel has a destination from 0 to 99, a serial number, which is the number of earlier "
            + "parcels with this destination, a weight from 1 to 50, and a condition: 0 good, 1 worn, 2 unreadable.");
        int[] least = {0, 1, 0};
        int[] greatest = {99, 50, 2};
        for (int[] good : new int[][] {least, greatest}) {
            ParcelSorter x = Scene.line();
            Check.same("taken", 0, x.arrive(0, good[0], good[1], good[2]));
            Check.same("destination", good[0], x.parcel(0, 0));
            Check.same("weight", good[1], x.parcel(0, 2));
            Check.same("condition", good[2], x.parcel(0, 3));
        }
        Check.holds("9", "Throws `IllegalArgumentException` if another argument is out of range");
        for (int i = 0; i < 3; i++) {
            for (int bad : new int[] {least[i] - 1, greatest[i] + 1, LEAST, GREATEST}) {
                int[] args = i == 1 ? least.clone() : greatest.clone();
                args[i] = bad;
                Twin.refused("argument " + i + " is " + bad, Check.RANGE, Scene.BUSY,
                    x -> x.arrive(1, args[0], args[1], args[2]));
            }
        }
    }

    private static void sixtyParcels() {
        Check.holds("Parcels", "There are at most 60 parcels, numbered from 0 in the order in which they arrive.");
        ParcelSorter x = Scene.lineTo(20, 0, 50, 1, 0);
        for (int i = 0; i < 60; i++) {
            Check.same("number", i, x.arrive(0, 99 - i, 1, 0));
            Check.same("its destination", 99 - i, x.parcel(i, 0));
            x.run(i % 10 + 1);
        }
        Check.refuses("one more", Check.STATE, () -> x.arrive(0, 0, 1, 0));
        Check.holds("9", "Throws `IllegalStateException` if there are 60 parcels, or 10 wait in the station");
        for (int station = 0; station < 3; station++) {
            int s = station;
            Twin.refused("though none waits in " + s, Check.STATE, Scene.ALL_DROPPED, y -> y.arrive(s, 99, 50, 2));
            Twin.refused("and ten wait in " + s, Check.STATE, Scene.FULL, y -> y.arrive(s, 0, 1, 0));
        }
        ParcelSorter z = Scene.ALL_DROPPED.get();
        Check.same("the run undone", 7, z.undo());
        Check.same("the sixtieth undone", 6, z.undo());
        Check.same("there is room for it", 59, z.arrive(2, 5, 1, 0));
        Check.refuses("and for no more", Check.STATE, () -> z.arrive(2, 5, 1, 0));
        Check.same("60", 60, z.count(5));
    }

    private static void tenWait() {
        Check.holds("Parcels", "At most 10 parcels wait in a station");
        ParcelSorter x = new ParcelSorter();
        x.addStation(11);
        x.addStation(3);
        for (int i = 0; i < 10; i++) {
            Check.same("number", i, x.arrive(0, 1, 1, 0));
        }
        Check.same("ten wait", 10, x.station(0, 1));
        Check.refuses("an eleventh", Check.STATE, () -> x.arrive(0, 1, 1, 0));
        Check.same("elsewhere there is room", 10, x.arrive(1, 1, 1, 0));
        x.run(1);
        Check.same("one left", 11, x.arrive(0, 1, 1, 0));
        Check.refuses("one left, one came", Check.STATE, () -> x.arrive(0, 1, 1, 0));
        Twin.refused("an eleventh", Check.STATE, ParcelEdgeTest::tenOfStationOne, y -> y.arrive(1, 1, 1, 0));
        Check.same("not in station 0", 20, tenOfStationOne().arrive(0, 1, 1, 0));
    }

    /** Twenty parcels; ten of them wait in station 1, none in station 0. */
    private static ParcelSorter tenOfStationOne() {
        ParcelSorter x = new ParcelSorter();
        x.build(30);
        x.addStation(29);
        x.addStation(9);
        for (int i = 0; i < 10; i++) {
            x.arrive(0, i, 1, 0);
        }
        x.run(10);
        for (int i = 0; i < 10; i++) {
            x.arrive(1, i, 1, 0);
        }
        return x;
    }

    private static void firstOfSeveral() {
        Check.holds("Exceptions", "If several exceptions apply, the one that is documented first is thrown.");
        Twin.refused("no station, destination 100", Check.INDEX, Scene.BUSY, x -> x.arrive(2, 100, 1, 0));
        Twin.refused("no station, weight 0", Check.INDEX, Scene.BUSY, x -> x.arrive(-1, 0, 0, 3));
        Twin.refused("no station, 60 parcels", Check.INDEX, Scene.FULL, x -> x.arrive(3, 0, 1, 0));
        Twin.refused("60 parcels, destination -1", Check.RANGE, Scene.ALL_DROPPED, x -> x.arrive(0, -1, 1, 0));
        Twin.refused("60 parcels, weight 51", Check.RANGE, Scene.ALL_DROPPED, x -> x.arrive(0, 1, 51, 0));
        Twin.refused("10 wait, condition 3", Check.RANGE, ParcelEdgeTest::tenOfStationOne, x -> x.arrive(1, 1, 1, 3));
        Twin.refused("parcel 22, what 12", Check.INDEX, Scene.BUSY, x -> x.parcel(22, 12));
        Twin.refused("parcel -1, what -1", Check.INDEX, Scene.BUSY, x -> x.parcel(-1, -1));
        Twin.refused("station 2, what 4", Check.INDEX, Scene.BUSY, x -> x.station(2, 4));
        Twin.refused("station -1, what -1", Check.INDEX, Scene.BUSY, x -> x.station(-1, -1));
    }

    private static void firstInFirstOut() {
        Check.holds("Parcels", "the first one that came is the first one that leaves");
        ParcelSorter x = Scene.line();
        for (int i = 0; i < 10; i++) {
            x.arrive(0, 90 - i, 1, 0);
        }
        for (int i = 0; i < 10; i++) {
            Check.same("the first one", i, x.station(0, 2));
            x.run(1);
            Check.same("leaves", i, x.carried(11));
            Check.same("one more came", 10 + i, x.arrive(0, 1, 1, 0));
        }
        x.run(2);
        Check.same("and those that came behind them", 11, x.carried(11));
    }

    private static void serialNumbers() {
        Check.holds("Parcels", "a serial number, which is the number of earlier parcels with this destination");
        ParcelSorter x = new ParcelSorter();
        x.addStation(11);
        x.addStation(10);
        int[] destinations = {0, 99, 0, 9, 90, 9, 0, 99};
        int[] due = {0, 0, 1, 0, 0, 1, 2, 1};
        for (int i = 0; i < destinations.length; i++) {
            x.arrive(i % 2, destinations[i], 1, i % 3);
            Check.same("parcel " + i, due[i], x.parcel(i, 1));
        }
        x.undo();
        x.arrive(0, 0, 1, 0);
        Check.same("after undo", 3, x.parcel(7, 1));
        ParcelSorter y = Scene.ALL_DROPPED.get();
        Check.same("dropped ones count", 8, y.parcel(59, 1));
    }

    // ---- promise 10

    private static void find() {
        Check.holds("10", "Returns a parcel by its label.");
        Check.holds("10", "Returns the number of the parcel.");
        ParcelSorter x = Scene.ALL_DROPPED.get();
        for (int destination = 0; destination < 7; destination++) {
            int last = destination < 4 ? 8 : 7;
            Check.same("the first one", destination, x.find(destination, 0));
            Check.same("the last one", destination + 7 * last, x.find(destination, last));
        }
        Check.same("the last parcel", 59, x.find(3, 8));
        Twin.unchanged("find", Scene.BUSY, y -> y.find(61, 1));
        Check.holds("10", "Throws `NoSuchElementException` if there is none");
        for (int[] label : new int[][] {{0, 9}, {3, 9}, {4, 8}, {6, 8}, {7, 0}, {99, 0}, {100, 0}, {-1, 0}, {0, -1},
                {LEAST, GREATEST}, {GREATEST, LEAST}}) {
            Twin.refused("find " + label[0] + "/" + label[1], Check.NONE, Scene.ALL_DROPPED,
                y -> y.find(label[0], label[1]));
        }
    }

    // ---- promise 11

    private static void parcelNumbers() {
        Check.holds("11", "Throws `IndexOutOfBoundsException` if there is no such parcel");
        for (int parcel : new int[] {-1, 22, 23, 60, LEAST, GREATEST}) {
            Twin.refused("parcel " + parcel, Check.INDEX, Scene.BUSY, x -> x.parcel(parcel, 0));
        }
        for (int parcel : new int[] {-1, 60, 61}) {
            Twin.refused("parcel " + parcel, Check.INDEX, Scene.FULL, x -> x.parcel(parcel, 11));
        }
        Check.holds("11", "Returns a property of a parcel.");
        Check.same("the first one", 0, Scene.FULL.get().parcel(0, 0));
        Check.same("the last one", 29, Scene.FULL.get().parcel(59, 0));
        Check.holds("11", "Throws `IllegalArgumentException` if what is not valid");
        for (int what : new int[] {-1, 12, 13, LEAST, GREATEST}) {
            Twin.refused("what " + what, Check.RANGE, Scene.BUSY, x -> x.parcel(21, what));
            Twin.refused("what " + what, Check.RANGE, Scene.ALL_DROPPED, x -> x.parcel(59, what));
        }
        Twin.unchanged("parcel", Scene.BUSY, x -> x.parcel(21, 11));
    }

    private static void parcelProperties() {
        Check.holds("11", "Returns the property.");
        ParcelSorter x = new ParcelSorter();
        x.addStation(10);
        x.addStation(11);
        x.addChute(9, 1, 0, 10, 2, 0);
        x.addChute(2, 1, 0, 50, 2, 0);
        Check.addPlan(x, "@3:12=0,1x1*0");
        x.arrive(1, 21, 11, 1);
        x.arrive(1, 21, 50, 1);
        are(x, 1, 21, 1, 50, 1, 0, 1, 0, -1, -1, -1, -1, 0);
        x.run(2);
        are(x, 0, 21, 0, 11, 1, 1, 0, 1, -1, 5, -1, -1, 0);
        x.run(1);
        are(x, 1, 21, 1, 50, 1, 1, 0, 1, 0, 0, -1, -1, 0);
        x.run(9);
        are(x, 1, 21, 1, 50, 1, 1, 9, 1, -1, 0, -1, -1, 1);
        x.run(2);
        are(x, 0, 21, 0, 11, 1, 1, 0, 2, 1, 3, -1, -1, 0);
        x.run(2);
        are(x, 0, 21, 0, 11, 1, 2, 1, 2, -1, 3, 16, 1, 0);
        x.run(1);
        are(x, 1, 21, 1, 50, 1, 2, 1, 2, -1, 3, 17, 1, 1);
    }

    private static void are(ParcelSorter x, int parcel, int... due) {
        Check.same("a value for each property", 12, due.length);
        for (int what = 0; what < due.length; what++) {
            Check.same("parcel " + parcel + ", " + what, due[what], x.parcel(parcel, what));
        }
    }

    private static void beforeAndAfter() {
        Check.holds("11", "7 the target, -1 without one; 8 the reason of the latest scan, -1 without one; 9 the tick at "
            + "which it was dropped, -1 if it was not; 10 the verdict, -1 if it was not dropped");
        ParcelSorter x = Scene.line(1);
        Check.addPlan(x, "@0:0-99=0x0");
        Scene.arrive(x, 0);
        int[][] due = {{-1, -1, -1, -1}, {-1, -1, -1, -1}, {0, 0, -1, -1}, {-1, 0, 3, 1}, {-1, 0, 3, 1}};
        for (int tick = 0; tick < 5; tick++) {
            for (int i = 0; i < 4; i++) {
                Check.same("tick " + tick + ", property " + (7 + i), due[tick][i], x.parcel(0, 7 + i));
            }
            x.run(1);
        }
    }

    private static void whereItIs() {
        Check.holds("Parcels", "It waits in a station, is carried, or was dropped.");
        Check.holds("11", "4 where it is: 0 in a station, 1 on the loop, 2 dropped; 5 the station, the place, or the "
            + "chute where it is");
        ParcelSorter x = new ParcelSorter();
        for (int place = 1; place <= 8; place++) {
            x.addChute(place, 1, 0, 50, 1, 0);
        }
        x.addStation(9);
        x.addStation(10);
        x.addStation(11);
        Check.addPlan(x, "@0:0-99=7x0");
        x.arrive(2, 99, 1, 0);
        int[] where = {0, 1, 1, 1, 1, 1, 1, 1, 1, 1, 2, 2};
        int[] at = {2, 11, 0, 1, 2, 3, 4, 5, 6, 7, 7, 7};
        for (int tick = 0; tick < where.length; tick++) {
            Check.same("where at tick " + tick, where[tick], x.parcel(0, 4));
            Check.same("at what at tick " + tick, at[tick], x.parcel(0, 5));
            for (int i = 0; i < 3; i++) {
                Check.same("counted there alone", i == where[tick] ? 1 : 0, x.count(6 + i));
            }
            x.run(1);
        }
    }

    private static void wornParcels() {
        Check.holds("Parcels", "A worn parcel is read as the destination whose two digits are exchanged, where "
            + "destinations below 10 have the first digit 0.");
        for (int destination = 0; destination < 100; destination++) {
            String digits = destination < 10 ? "0" + destination : "" + destination;
            String exchanged = "" + digits.charAt(1) + digits.charAt(0);
            for (int condition = 0; condition < 2; condition++) {
                ParcelSorter x = Scene.line(5, 7);
                Check.addPlan(x, "@0:" + (condition == 1 ? exchanged : digits) + "=1x0");
                x.arrive(0, destination, 1, condition);
                x.run(2);
                Check.same("reason of " + destination, 0, x.parcel(0, 8));
                Check.same("target of " + destination, 1, x.parcel(0, 7));
                Check.same("its destination stays", destination, x.parcel(0, 0));
            }
        }
    }

    private static void target() {
        Check.holds("Parcels", "A parcel that is carried has a target, a chute, or none, at first none; other parcels "
            + "have none.");
        ParcelSorter x = Scene.lineTo(20, 0, 50, 9, 0);
        Scene.arrive(x, 1);
        int[] due = {-1, -1, 0, 0, 0, -1, -1};
        for (int tick = 0; tick < due.length; tick++) {
            Check.same("target at tick " + tick, due[tick], x.parcel(0, 7));
            Check.same("parcels that have it", due[tick] == 0 ? 1 : 0, x.chute(0, 11));
            x.run(1);
        }
    }

    private static void spoiltSet() {
        Check.holds("11", "11 the set of chutes that are spoilt for it");
        ParcelSorter x = new ParcelSorter();
        x.addStation(11);
        for (int place = 1; place <= 8; place++) {
            x.addChute(place, 20, 0, 49, 1, 0);
        }
        Check.addPlan(x, "@0:0=0,1,2x0*9");
        Check.addPlan(x, "@38:0=3,4,5x0*9");
        Check.addPlan(x, "@74:0=6,7x0*9");
        x.arrive(0, 0, 50, 0);
        x.arrive(0, 99, 49, 0);
        x.run(2);
        for (int i = 0; i < 8; i++) {
            Check.same("before chute " + i, (1 << i) - 1, x.parcel(0, 11));
            Check.same("target", i, x.parcel(0, 7));
            x.run(12);
        }
        Check.same("all eight", 255, x.parcel(0, 11));
        Check.same("so there is none", 6, x.parcel(0, 8));
        Check.same("none for the other parcel", 0, x.parcel(1, 11));
        Check.same("which was dropped", 2, x.parcel(1, 4));
    }

    // ---- promise 17

    private static void stationNumbers() {
        Check.holds("17", "Throws `IndexOutOfBoundsException` if there is no such station");
        for (int station : new int[] {-1, 2, 3, LEAST, GREATEST}) {
            Twin.refused("station " + station, Check.INDEX, Scene.BUSY, x -> x.station(station, 0));
        }
        for (int station : new int[] {-1, 3}) {
            Twin.refused("station " + station, Check.INDEX, Scene.FULL, x -> x.station(station, 3));
        }
        Check.holds("17", "Returns a property of a station.");
        Check.same("the first one", 9, Scene.FULL.get().station(0, 0));
        Check.same("the last one", 29, Scene.FULL.get().station(2, 0));
        Check.holds("17", "Throws `IllegalArgumentException` if what is not valid");
        for (int what : new int[] {-1, 4, 5, LEAST, GREATEST}) {
            Twin.refused("what " + what, Check.RANGE, Scene.BUSY, x -> x.station(1, what));
        }
        Twin.unchanged("station", Scene.BUSY, x -> x.station(1, 3));
    }

    private static void stationProperties() {
        Check.holds("17", "1 the number of parcels that wait; 2 the first one of them, -1 without one; 3 the parcels "
            + "that left it");
        Check.holds("17", "Returns the property.");
        ParcelSorter x = Scene.line();
        Check.same("none yet", -1, x.station(0, 2));
        for (int i = 0; i < 10; i++) {
            x.arrive(0, i, 1, 0);
        }
        for (int i = 0; i < 10; i++) {
            Check.same("waiting", 10 - i, x.station(0, 1));
            Check.same("the first one", i, x.station(0, 2));
            Check.same("left", i, x.station(0, 3));
            x.run(1);
        }
        Check.same("none waits", 0, x.station(0, 1));
        Check.same("no first one", -1, x.station(0, 2));
        Check.same("ten left", 10, x.station(0, 3));
        x.run(100);
        Check.same("they leave once", 10, x.station(0, 3));
        ParcelSorter y = Scene.FULL.get();
        y.run(100);
        Check.same("no carrier is empty, so ten wait", 10, y.station(2, 1));
        Check.same("the first one of them", 32, y.station(2, 2));
        Check.same("ten left before", 10, y.station(2, 3));
    }
}
