import java.util.List;
import java.util.function.Supplier;

/** The boundary cases of promises 20 to 23: foresee, untilEmpty, audit, ledger. */
public final class AheadEdgeTest {
    private static final int LEAST = Integer.MIN_VALUE;
    private static final int GREATEST = Integer.MAX_VALUE;

    public static void main(String[] args) {
        foreseeParcels();
        foreseeTicks();
        nearestTick();
        farthestTick();
        droppedAlready();
        foreseeAgrees();
        planOfALaterTick();
        untilEmptyTicks();
        emptyNow();
        nearestAndFarthestEnd();
        untilEmptyAgrees();
        firstOfSeveral();
        changesNothing();
        audit();
        ledgerNumbers();
        ledgerOrder();
        Check.end();
    }

    /** The parcel is dropped at that tick and no earlier: the plan begins between two scans of it, or before both. */
    private static ParcelSorter droppedAt(int tick) {
        int place = (tick - 2) % 12;
        int scan = tick - place;
        ParcelSorter x = Scene.line(place);
        Check.addPlan(x, "@" + (scan - 11) + ":0-99=0x0*9");
        Scene.arrive(x, 1);
        return x;
    }

    // ---- promise 20

    private static void foreseeParcels() {
        Check.holds("20", "Throws `IndexOutOfBoundsException` if there is no such parcel");
        for (int parcel : new int[] {-1, 22, 60, LEAST, GREATEST}) {
            Twin.refused("foresee " + parcel, Check.INDEX, Scene.BUSY, x -> x.foresee(parcel, 1, true));
        }
        Twin.refused("foresee 60", Check.INDEX, Scene.ALL_DROPPED, x -> x.foresee(60, 200, false));
        Check.holds("20", "Returns the chute or the tick.");
        ParcelSorter x = Scene.ALL_DROPPED.get();
        Check.same("the first parcel", x.parcel(0, 9), x.foresee(0, 1, true));
        Check.same("the last parcel", x.parcel(59, 9), x.foresee(59, 1, true));
        Check.same("its chute", 0, x.foresee(59, 1, false));
    }

    private static void foreseeTicks() {
        Check.holds("20", "the greatest number of ticks that are looked ahead, 1 to 200");
        Check.holds("20", "Throws `IllegalArgumentException` if ticks is out of range");
        for (int ticks : new int[] {0, 201, -1, 300, LEAST, GREATEST}) {
            Twin.refused(ticks + " ticks", Check.RANGE, Scene.BUSY, x -> x.foresee(0, ticks, true));
            Twin.refused(ticks + " ticks", Check.RANGE, Scene.ALL_DROPPED, x -> x.foresee(0, ticks, false));
        }
    }

    private static void nearestTick() {
        Check.holds("20", "Throws `NoSuchElementException` if it is not dropped within these ticks");
        ParcelSorter x = Scene.lineTo(20, 0, 50, 9, 0);
        Scene.arrive(x, 1);
        for (int time = 0; time < 5; time++) {
            int left = 5 - time;
            if (left > 1) {
                Check.refuses("one tick less than " + left, Check.NONE, () -> x.foresee(0, left - 1, true));
            }
            Check.same("within " + left, 5, x.foresee(0, left, true));
            Check.same("its chute", 0, x.foresee(0, left, false));
            Check.same("within one more", 5, x.foresee(0, left + 1, true));
            x.run(1);
        }
    }

    private static void farthestTick() {
        Check.holds("20", "Throws `NoSuchElementException` if it is not dropped within these ticks");
        ParcelSorter x = droppedAt(200);
        Check.same("in the last of 200 ticks", 200, x.foresee(0, 200, true));
        Check.same("its chute", 0, x.foresee(0, 200, false));
        Twin.refused("199", Check.NONE, () -> droppedAt(200), y -> y.foresee(0, 199, true));
        Twin.refused("one tick behind them", Check.NONE, () -> droppedAt(201), y -> y.foresee(0, 200, false));
        ParcelSorter z = droppedAt(201);
        z.run(1);
        Check.same("one tick later it is within them", 201, z.foresee(0, 200, true));
        Twin.refused("never", Check.NONE, Scene.FULL, y -> y.foresee(59, 200, true));
        Check.same("so it comes", 1, dropsAfterTick100(droppedAt(200), 100));
        Check.same("and not earlier", 0, dropsAfterTick100(droppedAt(200), 99));
    }

    private static int dropsAfterTick100(ParcelSorter x, int ticks) {
        Check.same("none until tick 100", 0, x.run(100));
        return x.run(ticks);
    }

    private static void droppedAlready() {
        Check.holds("20", "false for the chute into which it will be dropped, or was dropped already; true for the tick");
        ParcelSorter x = Scene.line(7, 3);
        Check.addPlan(x, "@0:0-49=1;50-99=0x0");
        Scene.arrive(x, 1, 50);
        x.run(5);
        for (int ticks : new int[] {1, 200}) {
            Check.same("at this very tick", 5, x.foresee(0, ticks, true));
            Check.same("into chute 1", 1, x.foresee(0, ticks, false));
        }
        Check.same("the other one, later", 10, x.foresee(1, 5, true));
        Check.same("into chute 0", 0, x.foresee(1, 5, false));
        x.run(100);
        x.run(100);
        Check.same("long ago", 5, x.foresee(0, 1, true));
        Check.same("long ago", 10, x.foresee(1, 1, true));
    }

    /** What is foreseen comes true, for each parcel of a sorter in the midst of everything. */
    private static void foreseeAgrees() {
        Check.holds("20", "Returns what will become of a parcel if nothing but ticks happens.");
        ParcelSorter later = Scene.BUSY.get();
        later.run(100);
        later.run(100);
        for (int parcel = 0; parcel < later.count(5); parcel++) {
            ParcelSorter x = Scene.BUSY.get();
            int p = parcel;
            int tick = later.parcel(p, 9);
            if (tick < 0) {
                Check.refuses("never: " + p, Check.NONE, () -> x.foresee(p, 200, true));
                continue;
            }
            Check.same("tick of " + p, tick, x.foresee(p, 200, true));
            Check.same("chute of " + p, later.parcel(p, 5), x.foresee(p, 200, false));
            int ticks = tick - x.count(0);
            if (ticks > 1) {
                Check.same("just within them", tick, x.foresee(p, ticks, true));
                Check.refuses("not within them", Check.NONE, () -> x.foresee(p, ticks - 1, true));
            }
        }
        Check.yes("some were dropped then", later.count(8) > 10);
    }

    private static void planOfALaterTick() {
        Check.holds("20", "if nothing but ticks happens");
        for (int first = 13; first <= 15; first++) {
            ParcelSorter x = Scene.line(3, 5);
            Check.addPlan(x, "@" + first + ":1=0x1*0");
            Scene.arrive(x, 1);
            Check.same("a plan from " + first + " on", first <= 14 ? 19 : 31, x.foresee(0, 200, true));
            Check.same("the exception chute by then", 1, x.foresee(0, 200, false));
        }
    }

    // ---- promise 21

    private static void untilEmptyTicks() {
        Check.holds("21", "the greatest number of ticks that are looked ahead, 1 to 200");
        Check.holds("21", "Throws `IllegalArgumentException` if ticks is out of range");
        for (int ticks : new int[] {0, 201, -1, 300, LEAST, GREATEST}) {
            Twin.refused(ticks + " ticks", Check.RANGE, Scene.BUSY, x -> x.untilEmpty(ticks));
            Twin.refused(ticks + " ticks", Check.RANGE, Scene.NEW, x -> x.untilEmpty(ticks));
        }
    }

    private static void emptyNow() {
        Check.holds("21", "Returns the number of ticks, 0 if there is none now.");
        for (int ticks : new int[] {1, 200}) {
            Check.same("without parcels", 0, new ParcelSorter().untilEmpty(ticks));
            Check.same("all were dropped", 0, Scene.ALL_DROPPED.get().untilEmpty(ticks));
        }
        Twin.refused("one waits", Check.NONE, Scene::oneWaits, x -> x.untilEmpty(1));
        ParcelSorter x = Scene.lineTo(20, 0, 50, 9, 0);
        Scene.arrive(x, 1);
        x.run(4);
        Check.same("one is carried, for one tick yet", 1, x.untilEmpty(1));
        x.run(1);
        Check.same("none now", 0, x.untilEmpty(1));
    }

    private static void nearestAndFarthestEnd() {
        Check.holds("21", "Throws `NoSuchElementException` if that takes longer");
        ParcelSorter x = Scene.lineTo(20, 0, 50, 9, 0);
        Scene.arrive(x, 1, 2, 3);
        for (int time = 0; time < 7; time++) {
            int left = 7 - time;
            if (left > 1) {
                Check.refuses("one tick less than " + left, Check.NONE, () -> x.untilEmpty(left - 1));
            }
            Check.same("within " + left, left, x.untilEmpty(left));
            Check.same("within one more", left, x.untilEmpty(left + 1));
            x.run(1);
        }
        Check.same("in the last of 200 ticks", 200, droppedAt(200).untilEmpty(200));
        Twin.refused("199", Check.NONE, () -> droppedAt(200), y -> y.untilEmpty(199));
        Twin.refused("one tick behind them", Check.NONE, () -> droppedAt(201), y -> y.untilEmpty(200));
        Twin.refused("never", Check.NONE, Scene.FULL, y -> y.untilEmpty(200));
    }

    private static void untilEmptyAgrees() {
        Check.holds("21", "Returns how many ticks pass until no parcel waits or is carried any more, if nothing but ticks "
            + "happens.");
        Supplier<ParcelSorter> ten = () -> {
            ParcelSorter y = Scene.lineTo(2, 2, 10, 3, 4);
            y.addChute(9, 20, 0, 50, 1, 0);
            Check.addPlan(y, "@0:0-99=0x1*1");
            for (int i = 0; i < 10; i++) {
                y.arrive(0, i, 2 * i + 1, 0);
            }
            y.run(3);
            return y;
        };
        int ticks = ten.get().untilEmpty(200);
        ParcelSorter x = ten.get();
        for (int i = 0; i < ticks; i++) {
            Check.yes("not empty yet", x.count(6) + x.count(7) > 0);
            x.run(1);
        }
        Check.same("empty", 0, x.count(6) + x.count(7));
        Check.yes("after some rounds", x.count(16) > 1);
    }

    private static void firstOfSeveral() {
        Check.holds("Exceptions", "If several exceptions apply, the one that is documented first is thrown.");
        Twin.refused("no parcel, 0 ticks", Check.INDEX, Scene.BUSY, x -> x.foresee(22, 0, true));
        Twin.refused("no parcel, 201 ticks", Check.INDEX, Scene.BUSY, x -> x.foresee(-1, 201, true));
        Twin.refused("never, 0 ticks", Check.RANGE, Scene.FULL, x -> x.foresee(0, 0, true));
        Twin.refused("never, 201 ticks", Check.RANGE, Scene.FULL, x -> x.foresee(0, 201, false));
        Twin.refused("never empty, 0 ticks", Check.RANGE, Scene.FULL, x -> x.untilEmpty(0));
        Twin.refused("never empty, 201 ticks", Check.RANGE, Scene.FULL, x -> x.untilEmpty(201));
        Twin.refused("entry 60, what 4", Check.INDEX, Scene.ALL_DROPPED, x -> x.ledger(60, 4));
        Twin.refused("entry -1, what -1", Check.INDEX, Scene.ALL_DROPPED, x -> x.ledger(-1, -1));
    }

    private static void changesNothing() {
        Check.holds("20", "if nothing but ticks happens");
        for (Supplier<ParcelSorter> scene : List.of(Scene.BUSY, Scene.ALL_DROPPED, () -> droppedAt(200))) {
            Twin.unchanged("foresee", scene, x -> x.foresee(x.count(5) - 1, 200, true));
            Twin.unchanged("foresee", scene, x -> x.foresee(0, 1, false));
            Twin.unchanged("untilEmpty", scene, x -> x.untilEmpty(200));
            Twin.unchanged("audit", scene, x -> x.audit());
            Twin.unchanged("ledger", scene, x -> x.ledger(0, 3));
        }
    }

    // ---- promise 22

    private static void audit() {
        Check.holds("22", "Returns true if everything agrees.");
        Check.holds("22", "Counts everything that count and chute tell of dropped parcels once more");
        Check.yes("nothing there", new ParcelSorter().audit());
        Check.yes("no room left", Scene.FULL.get().audit());
        Check.yes("all dropped", Scene.ALL_DROPPED.get().audit());
        for (int undone = 0; undone <= 8; undone++) {
            ParcelSorter x = Scene.BUSY.get();
            for (int i = 0; i < undone; i++) {
                x.undo();
            }
            Check.yes("undone: " + undone, x.audit());
        }
        ParcelSorter y = Scene.BUSY.get();
        for (int tick = 0; tick < 60; tick++) {
            y.run(1);
            Check.yes("tick " + tick, y.audit());
        }
        y.restoreSnapshot();
        Check.yes("the snapshot", y.audit());
        y.build(12);
        Check.yes("a new loop", y.audit());
    }

    // ---- promise 23

    private static void ledgerNumbers() {
        Check.holds("23", "Throws `IndexOutOfBoundsException` if there is no such entry");
        for (int entry : new int[] {-1, 60, 61, LEAST, GREATEST}) {
            Twin.refused("entry " + entry, Check.INDEX, Scene.ALL_DROPPED, x -> x.ledger(entry, 0));
        }
        Twin.refused("none was dropped", Check.INDEX, Scene.FULL, x -> x.ledger(0, 0));
        Twin.refused("none was dropped", Check.INDEX, Scene.FULL, x -> x.ledger(-1, 3));
        ParcelSorter x = Scene.lineTo(20, 0, 50, 9, 0);
        Scene.arrive(x, 1, 2);
        x.run(4);
        Check.refuses("not dropped yet", Check.INDEX, () -> x.ledger(0, 0));
        x.run(1);
        Check.same("dropped", 0, x.ledger(0, 0));
        Check.refuses("the next one is not", Check.INDEX, () -> x.ledger(1, 0));
        Check.holds("23", "Throws `IllegalArgumentException` if what is not valid");
        for (int what : new int[] {-1, 4, 5, LEAST, GREATEST}) {
            Twin.refused("what " + what, Check.RANGE, Scene.ALL_DROPPED, y -> y.ledger(59, what));
        }
        Check.holds("23", "0 the parcel; 1 the chute; 2 the tick; 3 the verdict");
        Check.holds("23", "Returns the part.");
        int[] due = {0, 0, 5, 1};
        for (int what = 0; what <= 3; what++) {
            Check.same("part " + what, due[what], x.ledger(0, what));
        }
        Check.holds("23", "the number of the entry, from 0");
        ParcelSorter z = Scene.ALL_DROPPED.get();
        for (int entry = 0; entry < 60; entry++) {
            int parcel = z.ledger(entry, 0);
            Check.same("chute", z.parcel(parcel, 5), z.ledger(entry, 1));
            Check.same("tick", z.parcel(parcel, 9), z.ledger(entry, 2));
            Check.same("verdict", z.parcel(parcel, 10), z.ledger(entry, 3));
        }
    }

    /** Eight chutes, eight parcels, each dropped in the same tick or in its own. */
    private static void ledgerOrder() {
        Check.holds("23", "Returns a part of an entry of the ledger, which has the dropped parcels in the order in which "
            + "they were dropped, those dropped in the same tick in ascending order of chutes.");
        int[] places = {4, 8, 1, 7, 2, 6, 3, 5};
        ParcelSorter x = Scene.line(places);
        Check.addPlan(x, "@0:0=0;1=1;2=2;3=3;4=4;5=5;6=6;7=7x0");
        for (int place = 8; place >= 1; place--) {
            Scene.arrive(x, chuteAt(places, place));
            x.run(1);
        }
        Check.same("none yet", 0, x.run(1));
        Check.same("all in one tick", 8, x.run(1));
        for (int chute = 0; chute < 8; chute++) {
            Check.same("chute", chute, x.ledger(chute, 1));
            Check.same("the parcel for it", chute, x.parcel(x.ledger(chute, 0), 0));
            Check.same("tick", 10, x.ledger(chute, 2));
        }
        ParcelSorter y = Scene.line(places);
        Check.addPlan(y, "@0:0=0;1=1;2=2;3=3;4=4;5=5;6=6;7=7x0");
        for (int place = 1; place <= 8; place++) {
            Scene.arrive(y, chuteAt(places, place));
        }
        y.run(20);
        for (int i = 0; i < 8; i++) {
            Check.same("the order of the ticks", 3 + 2 * i, y.ledger(i, 2));
            Check.same("the parcel", i, y.ledger(i, 0));
        }
    }

    private static int chuteAt(int[] places, int place) {
        for (int chute = 0; chute < places.length; chute++) {
            if (places[chute] == place) {
                return chute;
            }
        }
        return -1;
    }
}
