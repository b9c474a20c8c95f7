/** The boundary cases of "Ticks", "Chutes" and "Trying" and of promises 13 to 16: run, setClosed, clear, chute. */
public final class TickEdgeTest {
    private static final int LEAST = Integer.MIN_VALUE;
    private static final int GREATEST = Integer.MAX_VALUE;

    public static void main(String[] args) {
        runTicks();
        runDrops();
        time();
        oneByOne();
        jamCountsDown();
        swapCountsDown();
        contentStays();
        countdownComesFirst();
        scanComesBeforeTrying();
        othersPassUntried();
        chutesInOrder();
        loading();
        passes();
        limit();
        gap();
        firstDropHasNoGap();
        gapCountsDropsAlone();
        clearingTime();
        capacity();
        usable();
        setClosed();
        clear();
        clearLastTick();
        chuteNumbers();
        chuteProperties();
        countsGoOn();
        firstOfSeveral();
        Check.end();
    }

    // ---- promise 13

    private static void runTicks() {
        Check.holds("13", "the number of ticks, 1 to 100");
        ParcelSorter x = Scene.line();
        Check.same("1", 0, x.run(1));
        Check.same("time", 1, x.count(0));
        Check.same("100", 0, x.run(100));
        Check.same("time", 101, x.count(0));
        Check.holds("13", "Throws `IllegalArgumentException` if ticks is out of range");
        for (int ticks : new int[] {0, 101, -1, 200, LEAST, GREATEST}) {
            Twin.refused("run " + ticks, Check.RANGE, Scene.BUSY, y -> y.run(ticks));
            Twin.refused("run " + ticks, Check.RANGE, Scene.NEW, y -> y.run(ticks));
        }
    }

    private static void runDrops() {
        Check.holds("13", "Returns the number of parcels that are dropped.");
        ParcelSorter x = Scene.lineTo(20, 0, 50, 9, 0);
        Scene.arrive(x, 1, 2, 3);
        Check.same("none yet", 0, x.run(4));
        Check.same("in the last tick of a run", 1, x.run(1));
        Check.same("in the first one and the second", 2, x.run(100));
        Check.same("none any more", 0, x.run(100));
        ParcelSorter y = Scene.line(9, 6, 3);
        Check.addPlan(y, "@0:0=0;1=1;2=2x0");
        Scene.arrive(y, 0);
        y.run(3);
        Scene.arrive(y, 1);
        y.run(3);
        Scene.arrive(y, 2);
        Check.same("none yet", 0, y.run(4));
        Check.same("three in one tick", 3, y.run(1));
        ParcelSorter z = new ParcelSorter();
        z.build(30);
        for (int i = 0; i < 3; i++) {
            z.addStation(27 + i);
            z.addChute(1 + i, 20, 0, 50, 1, 0);
        }
        Check.addPlan(z, "@0:0-99=0x0");
        for (int i = 0; i < 30; i++) {
            z.arrive(i % 3, i, 1, 0);
        }
        Check.same("thirty in one run", 30, z.run(100));
    }

    // ---- ticks

    private static void time() {
        Check.holds("Ticks", "With each tick, the time, at first 0, increases by 1.");
        ParcelSorter x = new ParcelSorter();
        Check.same("at first", 0, x.count(0));
        for (int tick = 1; tick <= 40; tick++) {
            x.run(1);
            Check.same("time", tick, x.count(0));
        }
        Check.holds("What it is", "An object is used for at most 512 calls after it has been made");
        ParcelSorter y = new ParcelSorter();
        for (int call = 1; call < 512; call++) {
            y.run(100);
        }
        Check.same("the 512th call", 51100, y.count(0));
    }

    private static void oneByOne() {
        Check.holds("Ticks", "Then the following is done, in this order:");
        Check.holds("13", "Lets time pass.");
        for (int ticks : new int[] {2, 7, 50, 100}) {
            Twin.becomes(ticks + " ticks at once and one by one", () -> busyAfter(1, ticks), () -> busyAfter(ticks, 1),
                x -> { });
        }
    }

    /** Undo would tell them apart, so nothing can be undone. */
    private static ParcelSorter busyAfter(int ticks, int times) {
        ParcelSorter x = Scene.BUSY.get();
        for (int i = 0; i < times; i++) {
            x.run(ticks);
        }
        x.saveSnapshot();
        x.restoreSnapshot();
        return x;
    }

    private static void jamCountsDown() {
        Check.holds("Ticks", "For each chute, the number of ticks for which it is jammed, and the one for which it is "
            + "swapped, decrease by 1, if they are above 0.");
        for (int clearing = 1; clearing <= 9; clearing++) {
            ParcelSorter x = Scene.lineTo(20, 0, 10, clearing, 0);
            x.arrive(0, 1, 11, 0);
            x.run(4);
            Check.same("not yet", 0, x.chute(0, 2));
            for (int left = clearing; left > 0; left--) {
                x.run(1);
                Check.same("jammed", left, x.chute(0, 2));
                Check.same("usable", 0, x.chute(0, 5));
            }
            x.run(1);
            Check.same("no longer jammed", 0, x.chute(0, 2));
            Check.same("usable", 1, x.chute(0, 5));
            x.run(1);
            Check.same("0 does not decrease", 0, x.chute(0, 2));
        }
    }

    private static void swapCountsDown() {
        Check.holds("Ticks", "If the latter becomes 0, the content becomes 0.");
        for (int swap = 0; swap <= 9; swap++) {
            ParcelSorter x = Scene.lineTo(2, 0, 50, 9, swap);
            Scene.arrive(x, 1, 2);
            x.run(5);
            Check.same("one is in it", 1, x.chute(0, 1));
            for (int left = swap; left > 0; left--) {
                x.run(1);
                Check.same("swapped", left, x.chute(0, 3));
                Check.same("two are in it", 2, x.chute(0, 1));
                Check.same("usable", 0, x.chute(0, 5));
            }
            x.run(1);
            Check.same("no longer swapped", 0, x.chute(0, 3));
            Check.same("empty", 0, x.chute(0, 1));
            Check.same("usable", 1, x.chute(0, 5));
            x.run(1);
            Check.same("0 does not decrease", 0, x.chute(0, 3));
            Check.same("one bag", 1, x.chute(0, 10));
        }
    }

    private static void contentStays() {
        Check.holds("Ticks", "If the latter becomes 0, the content becomes 0.");
        ParcelSorter x = Scene.lineTo(2, 0, 50, 9, 1);
        Scene.arrive(x, 1);
        x.run(100);
        Check.same("it is 0, but did not become 0", 1, x.chute(0, 1));
        x.run(100);
        Check.same("nor here", 1, x.chute(0, 1));
        Check.same("no bag", 0, x.chute(0, 10));
    }

    /** The chute is usable again in the very tick in which its number becomes 0, for a scan and for a try. */
    private static void countdownComesFirst() {
        Check.holds("Ticks", "Then the following is done, in this order:");
        for (int clearing = 4; clearing <= 6; clearing++) {
            ParcelSorter x = Scene.line();
            x.addChute(3, 20, 0, 10, clearing, 0);
            Check.addPlan(x, "@0:0-99=0x0");
            x.arrive(0, 1, 11, 0);
            x.run(8);
            Scene.arrive(x, 2);
            x.run(2);
            boolean isOver = clearing <= 5;
            Check.same("scanned at 10, jammed at 5 for " + clearing, isOver ? 0 : -1, x.parcel(1, 7));
            Check.same("the reason", isOver ? 0 : 6, x.parcel(1, 8));
        }
        for (int swap = 1; swap <= 3; swap++) {
            ParcelSorter x = Scene.lineTo(1, 0, 50, 9, swap);
            Scene.arrive(x, 1);
            x.run(2);
            Scene.arrive(x, 2);
            x.run(5);
            boolean isOver = swap <= 2;
            Check.same("tried at 7, swapped at 5 for " + swap, isOver ? 2 : 1, x.parcel(1, 4));
            Check.same("passes", isOver ? 0 : 1, x.chute(0, 9));
        }
    }

    /** In the tick in which one parcel fills the chute, another one is scanned: the chute is usable yet. */
    private static void scanComesBeforeTrying() {
        Check.holds("Ticks", "The parcel on the carrier at place 0, if there is one, is scanned.");
        for (int later = 2; later <= 4; later++) {
            ParcelSorter x = Scene.lineTo(1, 0, 50, 9, 9);
            Scene.arrive(x, 1);
            x.run(later);
            Scene.arrive(x, 2);
            x.run(2);
            Check.same("scanned at " + (later + 2), later == 4 ? -1 : 0, x.parcel(1, 7));
            Check.same("the reason", later == 4 ? 6 : 0, x.parcel(1, 8));
        }
        ParcelSorter y = Scene.line();
        Scene.arrive(y, 1);
        y.run(1);
        Check.same("moved to place 11, not scanned", 0, y.parcel(0, 6));
        Check.holds("Ticks", "Each carrier moves to the next place.");
        y.run(1);
        Check.same("moved first, then scanned", 1, y.parcel(0, 6));
        y.run(11);
        Check.same("nothing is at place 0", 1, y.parcel(0, 6));
    }

    private static void othersPassUntried() {
        Check.holds("Ticks", "For each chute, in ascending order, the parcel on the carrier at its place, if there is one "
            + "whose target is this chute, is tried.");
        ParcelSorter x = Scene.line(2, 3, 4);
        Check.addPlan(x, "@0:0-49=1;90=2x2");
        x.setClosed(0, true);
        x.setClosed(2, true);
        Scene.arrive(x, 1, 60);
        x.run(5);
        Check.same("dropped into its target", 1, x.parcel(0, 5));
        x.run(20);
        for (int chute = 0; chute < 3; chute++) {
            Check.same("one without this target is no pass of " + chute, 0, x.chute(chute, 9));
            Check.same("nor a jam", 0, x.chute(chute, 8));
        }
        Check.same("no target, since it is closed", 14, x.parcel(1, 8));
        Check.same("on the loop", 1, x.parcel(1, 4));
    }

    private static void chutesInOrder() {
        Check.holds("Ticks", "For each chute, in ascending order");
        for (int i = 0; i < 2; i++) {
            boolean isFarFirst = i == 0;
            ParcelSorter x = isFarFirst ? Scene.line(5, 3) : Scene.line(3, 5);
            Check.addPlan(x, isFarFirst ? "@0:1=0;2=1x0" : "@0:1=1;2=0x0");
            Scene.arrive(x, 1);
            x.run(2);
            Scene.arrive(x, 2);
            Check.same("none yet", 0, x.run(4));
            Check.same("both in one tick", 2, x.run(1));
            for (int entry = 0; entry < 2; entry++) {
                Check.same("by the chutes' numbers", entry, x.ledger(entry, 1));
                Check.same("the same tick", 7, x.ledger(entry, 2));
                Check.same("the parcel", isFarFirst == (entry == 0) ? 0 : 1, x.ledger(entry, 0));
            }
        }
    }

    private static void loading() {
        Check.holds("Ticks", "For each station, in ascending order, if the carrier at its place is empty and a parcel "
            + "waits, this parcel is put on it.");
        ParcelSorter x = new ParcelSorter();
        x.addStation(4);
        x.addStation(3);
        x.addStation(11);
        x.addChute(2, 20, 0, 50, 1, 0);
        Check.addPlan(x, "@0:1=0x0*9");
        x.arrive(2, 1, 1, 0);
        x.run(4);
        Check.same("dropped one place before station 1", 1, x.count(8));
        x.arrive(1, 2, 1, 0);
        x.arrive(0, 3, 1, 0);
        x.run(1);
        Check.same("where it was dropped, there is room", 1, x.carried(3));
        Check.same("at station 0 too", 2, x.carried(4));
        x.arrive(0, 4, 1, 0);
        x.run(1);
        Check.same("the carrier comes with a parcel", 1, x.carried(4));
        Check.same("so the other one waits", 0, x.parcel(3, 4));
        x.run(1);
        Check.same("for the next one", 3, x.carried(4));
        Check.same("one left station 1", 1, x.station(1, 3));
        Check.same("two left station 0", 2, x.station(0, 3));
    }

    // ---- trying

    private static void passes() {
        Check.holds("Trying", "If the chute is not usable, the parcel stays on its carrier without a target, and this "
            + "counts as a pass of the chute.");
        ParcelSorter x = Scene.lineTo(1, 5, 10, 9, 9);
        x.arrive(0, 1, 50, 0);
        x.run(4);
        x.setClosed(0, true);
        x.run(1);
        Check.same("closed: a pass", 1, x.chute(0, 9));
        Check.same("though it is too heavy, no jam", 0, x.chute(0, 8));
        Check.same("and not spoilt", 0, x.parcel(0, 11));
        stays(x, 0);
        ParcelSorter y = Scene.lineTo(20, 0, 10, 9, 0);
        y.arrive(0, 1, 11, 0);
        y.arrive(0, 2, 11, 0);
        y.run(6);
        Check.same("jammed: a pass", 1, y.chute(0, 9));
        Check.same("one jam", 1, y.chute(0, 8));
        Check.same("and not spoilt", 0, y.parcel(1, 11));
        Check.same("the jam goes on", 8, y.chute(0, 2));
        stays(y, 1);
        ParcelSorter z = Scene.lineTo(1, 5, 50, 9, 9);
        Scene.arrive(z, 1, 2);
        z.run(6);
        Check.same("swapped: a pass", 1, z.chute(0, 9));
        Check.same("though it is too soon, no jam", 0, z.chute(0, 8));
        stays(z, 1);
    }

    private static void stays(ParcelSorter x, int parcel) {
        Check.same("on its carrier", parcel, x.carried(3));
        Check.same("without a target", -1, x.parcel(parcel, 7));
        Check.same("the reason stays", 0, x.parcel(parcel, 8));
        Check.same("no parcel has this target", 0, x.chute(0, 11));
        x.run(1);
        Check.same("it goes on", parcel, x.carried(4));
    }

    private static void limit() {
        Check.holds("Trying", "Otherwise, if the weight of the parcel is above the limit, the chute is spoilt for the "
            + "parcel, and jams.");
        for (int limit : new int[] {1, 2, 25, 49, 50}) {
            for (int weight : new int[] {limit - 1, limit, limit + 1}) {
                if (weight < 1 || weight > 50) {
                    continue;
                }
                boolean isAbove = weight > limit;
                ParcelSorter x = Scene.lineTo(20, 0, limit, 9, 0);
                x.arrive(0, 1, weight, 0);
                Check.same("limit " + limit + ", weight " + weight, isAbove ? 0 : 1, x.run(5));
                Check.same("spoilt", isAbove ? 1 : 0, x.parcel(0, 11));
                Check.same("jams", isAbove ? 1 : 0, x.chute(0, 8));
                Check.same("jammed", isAbove ? 9 : 0, x.chute(0, 2));
                Check.same("passes", 0, x.chute(0, 9));
                Check.same("content", isAbove ? 0 : 1, x.chute(0, 1));
            }
        }
        ParcelSorter y = Scene.lineTo(20, 5, 10, 9, 0);
        y.arrive(0, 1, 10, 0);
        y.arrive(0, 1, 11, 0);
        y.run(6);
        Check.same("too heavy goes before too soon", 1, y.parcel(1, 11));
        Check.same("and is one jam", 1, y.chute(0, 8));
    }

    private static void gap() {
        Check.holds("Trying", "Otherwise, if this tick minus the one at which the latest parcel was dropped into the chute "
            + "is less than the gap, the chute jams.");
        for (int gap = 0; gap <= 5; gap++) {
            for (int ticks = 1; ticks <= 6; ticks++) {
                ParcelSorter x = Scene.lineTo(20, gap, 50, 9, 0);
                Scene.arrive(x, 1);
                x.run(ticks);
                Scene.arrive(x, 2);
                boolean isLess = ticks < gap;
                x.run(5);
                Check.same("gap " + gap + ", " + ticks + " ticks", isLess ? 1 : 2, x.count(8));
                Check.same("jams", isLess ? 1 : 0, x.chute(0, 8));
                Check.same("jammed", isLess ? 9 : 0, x.chute(0, 2));
                Check.same("not spoilt", 0, x.parcel(1, 11));
                Check.same("no pass", 0, x.chute(0, 9));
                Check.same("latest drop", isLess ? 5 : 5 + ticks, x.chute(0, 6));
            }
        }
    }

    /** The earliest drop that there can be is at tick 3, nearer to the start than the greatest gap. */
    private static void firstDropHasNoGap() {
        Check.holds("16", "6 the tick of the latest drop, -1 without one");
        ParcelSorter x = Scene.line();
        x.addChute(1, 20, 5, 50, 9, 0);
        Check.addPlan(x, "@0:0-99=0x0");
        Scene.arrive(x, 1);
        Check.same("without one", -1, x.chute(0, 6));
        x.run(2);
        Check.same("without one", -1, x.chute(0, 6));
        Check.same("dropped", 1, x.run(1));
        Check.same("at tick 3", 3, x.chute(0, 6));
        Check.same("no jam", 0, x.chute(0, 8));
    }

    private static void gapCountsDropsAlone() {
        Check.holds("Trying", "the one at which the latest parcel was dropped into the chute");
        ParcelSorter x = Scene.lineTo(20, 3, 10, 1, 0);
        Scene.arrive(x, 1);
        x.run(1);
        Scene.arrive(x, 2);
        x.run(2);
        Scene.arrive(x, 3);
        x.run(5);
        Check.same("dropped at 5, jammed at 6, dropped at 8", 2, x.count(8));
        Check.same("a jam is no drop", 8, x.chute(0, 6));
        Check.same("one jam", 1, x.chute(0, 8));
    }

    private static void clearingTime() {
        Check.holds("Trying", "When a chute jams, the number of ticks for which it is jammed becomes its clearing time, "
            + "which the next tick decreases already, and the parcel stays on its carrier without a target.");
        for (int clearing = 1; clearing <= 9; clearing++) {
            for (int ticks = 1; ticks <= 10; ticks++) {
                ParcelSorter x = Scene.lineTo(20, 0, 10, clearing, 0);
                x.arrive(0, 1, 11, 0);
                x.run(ticks);
                Scene.arrive(x, 2);
                // scanned before the jam, or after it; only what was scanned as usable is tried
                boolean isTried = ticks <= 3 || ticks - 3 >= clearing;
                boolean isDropped = isTried && ticks >= clearing;
                x.run(5);
                Check.same("clearing " + clearing + ", " + ticks + " ticks", isDropped ? 1 : 0, x.count(8));
                Check.same("passes", isTried && !isDropped ? 1 : 0, x.chute(0, 9));
            }
        }
        ParcelSorter y = Scene.lineTo(20, 0, 10, 9, 0);
        y.arrive(0, 1, 11, 0);
        y.run(5);
        stays(y, 0);
    }

    private static void capacity() {
        Check.holds("Trying", "Otherwise the parcel is dropped: the content increases by 1, and if it is the capacity then, "
            + "a bag is finished: the chute is swapped for its swap time; if that is 0, the content becomes 0 at once.");
        for (int capacity : new int[] {1, 2, 3, 19, 20}) {
            for (int swap : new int[] {0, 1, 9}) {
                ParcelSorter x = Scene.lineTo(capacity, 0, 50, 9, swap);
                for (int i = 1; i <= capacity; i++) {
                    Scene.arrive(x, i);
                    Check.same("none yet", 0, x.run(4));
                    Check.same("before it", i - 1, x.chute(0, 1));
                    Check.same("dropped", 1, x.run(1));
                    boolean isFull = i == capacity;
                    Check.same("content", isFull && swap == 0 ? 0 : i, x.chute(0, 1));
                    Check.same("bags", isFull ? 1 : 0, x.chute(0, 10));
                    Check.same("swapped", isFull ? swap : 0, x.chute(0, 3));
                    Check.same("usable", isFull && swap > 0 ? 0 : 1, x.chute(0, 5));
                    Check.same("dropped into it", i, x.chute(0, 7));
                }
            }
        }
        ParcelSorter y = Scene.lineTo(1, 0, 50, 9, 1);
        Scene.arrive(y, 1, 2, 3);
        Check.same("swapped in the tick between two parcels", 3, y.run(7));
        Check.same("three bags", 3, y.chute(0, 10));
    }

    // ---- chutes

    private static void usable() {
        Check.holds("Chutes", "It is usable if it is not closed by hand, these two numbers are 0, and its content is less "
            + "than its capacity.");
        ParcelSorter x = Scene.lineTo(2, 0, 10, 2, 2);
        is("empty", x, 0, 0, 0, 0, 1);
        x.setClosed(0, true);
        is("closed", x, 0, 0, 0, 1, 0);
        x.setClosed(0, false);
        Scene.arrive(x, 1);
        x.arrive(0, 1, 11, 0);
        x.run(5);
        is("one less than full", x, 1, 0, 0, 0, 1);
        x.run(1);
        is("jammed for 2", x, 1, 2, 0, 0, 0);
        x.run(1);
        is("jammed for 1", x, 1, 1, 0, 0, 0);
        x.run(1);
        is("no longer jammed", x, 1, 0, 0, 0, 1);
        Scene.arrive(x, 1);
        x.run(5);
        is("full and swapped for 2", x, 2, 0, 2, 0, 0);
        x.run(1);
        is("full and swapped for 1", x, 2, 0, 1, 0, 0);
        x.run(1);
        is("empty again", x, 0, 0, 0, 0, 1);
        Check.holds("Chutes", "It has a content, a number of parcels, is jammed for a number of ticks, is swapped for a "
            + "number of ticks, and is closed by hand or not.");
        x.setClosed(0, true);
        x.run(100);
        is("closed without an end", x, 0, 0, 0, 1, 0);
    }

    private static void is(String what, ParcelSorter x, int... due) {
        for (int i = 0; i < due.length; i++) {
            Check.same(what + ", property " + (1 + i), due[i], x.chute(0, 1 + i));
        }
    }

    // ---- promises 14 and 15

    private static void setClosed() {
        Check.holds("14", "Throws `IndexOutOfBoundsException` if there is no such chute");
        for (int chute : new int[] {-1, 4, 8, LEAST, GREATEST}) {
            Twin.refused("setClosed " + chute, Check.INDEX, Scene.BUSY, x -> x.setClosed(chute, true));
            Twin.refused("setClosed " + chute, Check.INDEX, Scene.BUSY, x -> x.setClosed(chute, false));
        }
        Twin.refused("setClosed 8", Check.INDEX, Scene.FULL, x -> x.setClosed(8, true));
        Check.holds("14", "Returns whether it was closed before.");
        for (int chute : new int[] {0, 7}) {
            ParcelSorter x = Scene.FULL.get();
            Check.no("open", x.setClosed(chute, false));
            Check.no("open", x.setClosed(chute, true));
            Check.yes("closed", x.setClosed(chute, true));
            Check.same("closed", 1, x.chute(chute, 4));
            Check.same("the others are not", 0, x.chute(7 - chute, 4));
            Check.yes("closed", x.setClosed(chute, false));
            Check.same("open", 0, x.chute(chute, 4));
        }
        Check.holds("14", "Closes or opens a chute by hand.");
        ParcelSorter y = Scene.lineTo(1, 0, 10, 9, 9);
        Scene.arrive(y, 1);
        y.run(5);
        y.setClosed(0, true);
        y.setClosed(0, false);
        is("opening ends no swap", y, 1, 0, 9, 0, 0);
    }

    private static void clear() {
        Check.holds("15", "Throws `IndexOutOfBoundsException` if there is no such chute");
        for (int chute : new int[] {-1, 4, 8, LEAST, GREATEST}) {
            Twin.refused("clear " + chute, Check.INDEX, Scene.BUSY, x -> x.clear(chute));
        }
        Check.holds("15", "Throws `IllegalStateException` if it is not jammed");
        for (int chute : new int[] {0, 7}) {
            Twin.refused("clear " + chute, Check.STATE, Scene.FULL, x -> x.clear(chute));
        }
        Twin.refused("a swapped one", Check.STATE, () -> bagAfter(5), x -> x.clear(0));
        Twin.refused("a closed one", Check.STATE, TickEdgeTest::closed, x -> x.clear(0));
        Twin.refused("one that was jammed", Check.STATE, () -> jamAfter(14), x -> x.clear(0));
        Check.holds("15", "Clears a jam, so that the chute is no longer jammed.");
        ParcelSorter y = jamAfter(5);
        Check.same("the whole clearing time", 9, y.clear(0));
        is("no longer jammed", y, 0, 0, 0, 0, 1);
        Check.refuses("not twice", Check.STATE, () -> y.clear(0));
        Check.same("the jam is counted", 1, y.chute(0, 8));
        Check.same("the parcel's chute is spoilt", 1, y.parcel(0, 11));
    }

    /** The chute jams at tick 5 for nine ticks. */
    private static ParcelSorter jamAfter(int ticks) {
        ParcelSorter x = Scene.lineTo(20, 0, 10, 9, 0);
        x.arrive(0, 1, 11, 0);
        x.run(ticks);
        return x;
    }

    /** The chute is swapped at tick 5 for nine ticks. */
    private static ParcelSorter bagAfter(int ticks) {
        ParcelSorter x = Scene.lineTo(1, 0, 50, 9, 9);
        Scene.arrive(x, 1);
        x.run(ticks);
        return x;
    }

    private static ParcelSorter closed() {
        ParcelSorter x = Scene.line(3);
        x.setClosed(0, true);
        return x;
    }

    private static void clearLastTick() {
        Check.holds("15", "Returns the number of ticks for which it would still have been jammed.");
        for (int ticks = 5; ticks <= 13; ticks++) {
            Check.same("jammed at 5 for 9, cleared at " + ticks, 14 - ticks, jamAfter(ticks).clear(0));
        }
        ParcelSorter x = jamAfter(14);
        Check.refuses("over at 14", Check.STATE, () -> x.clear(0));
        ParcelSorter y = jamAfter(6);
        y.setClosed(0, true);
        Check.same("a closed one that is jammed", 8, y.clear(0));
        is("is closed yet", y, 0, 0, 0, 1, 0);
    }

    // ---- promise 16

    private static void chuteNumbers() {
        Check.holds("16", "Throws `IndexOutOfBoundsException` if there is no such chute");
        for (int chute : new int[] {-1, 4, 8, LEAST, GREATEST}) {
            Twin.refused("chute " + chute, Check.INDEX, Scene.BUSY, x -> x.chute(chute, 0));
        }
        for (int chute : new int[] {-1, 8}) {
            Twin.refused("chute " + chute, Check.INDEX, Scene.FULL, x -> x.chute(chute, 11));
        }
        Check.holds("16", "Returns a property of a chute.");
        Check.same("the first one", 1, Scene.FULL.get().chute(0, 0));
        Check.same("the last one", 8, Scene.FULL.get().chute(7, 0));
        Check.holds("16", "Throws `IllegalArgumentException` if what is not valid");
        for (int what : new int[] {-1, 12, 13, LEAST, GREATEST}) {
            Twin.refused("what " + what, Check.RANGE, Scene.BUSY, x -> x.chute(3, what));
        }
        Twin.unchanged("chute", Scene.BUSY, x -> x.chute(3, 11));
    }

    private static void chuteProperties() {
        Check.holds("16", "7 the parcels dropped into it; 8 the jams; 9 the passes; 10 the finished bags; 11 the parcels "
            + "that have it as their target");
        Check.holds("16", "Returns the property.");
        ParcelSorter x = Scene.line(10);
        x.addChute(1, 2, 0, 10, 3, 4);
        Check.addPlan(x, "@0:0-49=0;50-99=1x0*9");
        Scene.arrive(x, 50, 51, 1, 2, 3, 4);
        x.arrive(0, 52, 11, 0);
        Scene.arrive(x, 5);
        x.run(6);
        are(x, 1, 1, 2, 0, 2, 0, 0, 4, 2, 0, 0, 1, 0);
        x.run(2);
        are(x, 1, 1, 0, 0, 0, 0, 1, 4, 2, 0, 0, 1, 1);
        x.run(1);
        are(x, 1, 1, 0, 3, 0, 0, 0, 4, 2, 1, 0, 1, 0);
        are(x, 0, 10, 0, 0, 0, 0, 1, -1, 0, 0, 0, 0, 5);
    }

    /** A jam at 5, a pass at 6, a bag at 10, a pass at 11, a bag at 13: none begins anew with another one. */
    private static void countsGoOn() {
        Check.holds("16", "7 the parcels dropped into it; 8 the jams; 9 the passes; 10 the finished bags");
        ParcelSorter x = Scene.lineTo(1, 0, 10, 2, 2);
        x.arrive(0, 1, 11, 0);
        Scene.arrive(x, 2);
        x.run(5);
        are(x, 0, 3, 0, 2, 0, 0, 0, -1, 0, 1, 0, 0, 1);
        Scene.arrive(x, 3);
        x.run(1);
        are(x, 0, 3, 0, 1, 0, 0, 0, -1, 0, 1, 1, 0, 0);
        Scene.arrive(x, 4);
        x.run(2);
        Scene.arrive(x, 5);
        x.run(2);
        are(x, 0, 3, 1, 0, 2, 0, 0, 10, 1, 1, 1, 1, 2);
        x.run(1);
        are(x, 0, 3, 1, 0, 1, 0, 0, 10, 1, 1, 2, 1, 1);
        x.run(2);
        are(x, 0, 3, 1, 0, 2, 0, 0, 13, 2, 1, 2, 2, 0);
    }

    private static void are(ParcelSorter x, int chute, int... due) {
        Check.same("a value for each property", 12, due.length);
        for (int what = 0; what < due.length; what++) {
            Check.same("chute " + chute + ", property " + what, due[what], x.chute(chute, what));
        }
    }

    private static void firstOfSeveral() {
        Check.holds("Exceptions", "If several exceptions apply, the one that is documented first is thrown.");
        Twin.refused("chute 4, what 12", Check.INDEX, Scene.BUSY, x -> x.chute(4, 12));
        Twin.refused("chute -1, what -1", Check.INDEX, Scene.BUSY, x -> x.chute(-1, -1));
        Twin.refused("chute 8, what 12", Check.INDEX, Scene.FULL, x -> x.chute(8, 12));
        Twin.refused("clear 0 without chutes", Check.INDEX, Scene.NEW, x -> x.clear(0));
    }
}
