/** Promises 24 to 26: undo, saveSnapshot, restoreSnapshot. */
public final class UndoTest {
    public static void main(String[] args) {
        eachChange();
        latestEight();
        whatIsNoChange();
        inputAndPaperStay();
        snapshot();
        snapshotIsKept();
        everythingComesBack();
        ledgerComesBack();
        Check.end();
    }

    private static ParcelSorter sorter() {
        ParcelSorter x = new ParcelSorter();
        x.addStation(11);
        x.addChute(3, 1, 0, 10, 9, 9);
        Check.addPlan(x, "@0:0-49=0x0");
        return x;
    }

    private static void eachChange() {
        ParcelSorter x = new ParcelSorter();
        Check.refuses("none", Check.STATE, () -> x.undo());
        x.addStation(11);
        Check.same("addStation", 0, x.undo());
        Check.same("stations", 0, x.count(2));
        x.addStation(11);
        x.addChute(3, 1, 0, 10, 9, 9);
        Check.same("addChute", 1, x.undo());
        Check.same("chutes", 0, x.count(3));
        x.addChute(3, 1, 0, 10, 9, 9);
        Check.addPlan(x, "@0:0-49=0x0");
        Check.same("addPlan", 2, x.undo());
        Check.same("plans", 0, x.count(4));
        Check.addPlan(x, "@0:0-49=0x0");
        Check.addPlan(x, "@0:0-9=0x0");
        Check.same("addPlan in place of another", 3, x.undo());
        Check.same("the other one", "@0:0-49=0x0", Check.written(x, 0));
        x.arrive(0, 1, 11, 0);
        Check.same("arrive", 3, x.undo());
        Check.same("parcels", 0, x.count(5));
        Check.same("in the station", 0, x.station(0, 1));
        Check.same("the serial number too", 0, x.arrive(0, 1, 11, 0));
        Check.same("it", 0, x.parcel(0, 1));
        x.run(7);
        Check.same("jammed", 7, x.clear(0));
        Check.same("clear", 5, x.undo());
        Check.same("jammed again", 7, x.chute(0, 2));
        x.setClosed(0, true);
        Check.same("setClosed", 5, x.undo());
        Check.same("open again", 0, x.chute(0, 4));
        Check.same("run", 4, x.undo());
        Check.same("time", 0, x.count(0));
        Check.same("in the station again", 1, x.station(0, 1));
        Check.same("none left it", 0, x.station(0, 3));
        Check.same("not spoilt", 0, x.parcel(0, 11));
        Check.same("no jam", 0, x.count(14));
        Check.same("place", 11, x.station(0, 0));
        x.run(1);
        Check.same("and off again", 0, x.carried(11));
    }

    private static void latestEight() {
        ParcelSorter x = new ParcelSorter();
        for (int i = 1; i <= 20; i++) {
            x.run(i);
        }
        int time = 210;
        for (int i = 0; i < 8; i++) {
            time -= 20 - i;
            Check.same("left", 7 - i, x.undo());
            Check.same("time", time, x.count(0));
        }
        Check.refuses("a ninth", Check.STATE, () -> x.undo());
        Check.same("as it was", time, x.count(0));
        x.run(5);
        x.run(6);
        Check.same("new changes", 1, x.undo());
        x.run(1);
        Check.same("one undone, one new", 1, x.undo());
        Check.same("time", time + 5, x.count(0));
        Check.same("the older one", 0, x.undo());
        Check.same("time", time, x.count(0));
    }

    private static void whatIsNoChange() {
        ParcelSorter x = sorter();
        x.arrive(0, 1, 1, 0);
        Check.refuses("addStation", Check.RANGE, () -> x.addStation(11));
        Check.refuses("addChute", Check.RANGE, () -> x.addChute(3, 1, 0, 10, 9, 9));
        Check.same("a fault", -102, Check.addPlan(x, "@1x"));
        Check.feed(x, "@1:1=7x0");
        Check.refuses("impossible", Check.IMPOSSIBLE, () -> x.addPlan());
        Check.refuses("arrive", Check.RANGE, () -> x.arrive(0, 1, 0, 0));
        Check.refuses("run", Check.RANGE, () -> x.run(0));
        Check.refuses("setClosed", Check.INDEX, () -> x.setClosed(1, true));
        Check.refuses("clear", Check.STATE, () -> x.clear(0));
        Check.refuses("build", Check.RANGE, () -> x.build(1));
        Check.refuses("restore", Check.STATE, () -> x.restoreSnapshot());
        x.foresee(0, 100, true);
        x.untilEmpty(100);
        x.audit();
        x.write(0);
        x.saveSnapshot();
        Check.same("four changes", 3, x.undo());
        Check.same("the parcel's", 0, x.count(5));
    }

    private static void inputAndPaperStay() {
        ParcelSorter x = sorter();
        x.write(0);
        x.run(1);
        Check.feed(x, "@7:1=0");
        x.undo();
        x.undo();
        Check.same("the paper", "@0:0-49=0x0", Check.paper(x, 11));
        Check.same("the input", 1, Check.addPlan(x, "x0"));
        x.undo();
        Check.same("the input stays empty", 1, x.feed('@'));
    }

    private static void snapshot() {
        ParcelSorter x = sorter();
        Check.refuses("none was saved", Check.STATE, () -> x.restoreSnapshot());
        x.arrive(0, 1, 1, 0);
        x.arrive(0, 2, 11, 1);
        x.run(7);
        Check.same("the time", 7, x.saveSnapshot());
        int[] counts = new int[17];
        for (int what = 0; what < 17; what++) {
            counts[what] = x.count(what);
        }
        int[] parcel = new int[12];
        for (int what = 0; what < 12; what++) {
            parcel[what] = x.parcel(1, what);
        }
        x.run(20);
        x.addStation(4);
        x.addChute(5, 1, 0, 10, 9, 9);
        Check.addPlan(x, "@0:0-9=1x0");
        x.arrive(1, 1, 1, 0);
        x.setClosed(0, true);
        x.write(0);
        Check.feed(x, "@1:1=0");
        Check.same("the time", 7, x.restoreSnapshot());
        for (int what = 0; what < 17; what++) {
            Check.same("count " + what, counts[what], x.count(what));
        }
        for (int what = 0; what < 12; what++) {
            Check.same("parcel " + what, parcel[what], x.parcel(1, what));
        }
        Check.refuses("no undo", Check.STATE, () -> x.undo());
        Check.same("the drop", 0, x.ledger(0, 0));
        Check.same("open", 0, x.chute(0, 4));
        Check.same("the paper stays", "@0:0-9=1x0", Check.paper(x, 10));
        Check.same("the input stays", 2, Check.addPlan(x, "x0"));
        Check.same("the old plan", "@0:0-49=0x0", Check.written(x, 0));
    }

    /** A sorter in the midst of everything: drops, a jam, a swap, a pass, a spoilt chute, waiting parcels. */
    private static ParcelSorter busy() {
        ParcelSorter x = new ParcelSorter();
        x.build(14);
        x.addStation(12);
        x.addStation(10);
        x.addChute(2, 3, 0, 20, 7, 8);
        x.addChute(4, 9, 4, 50, 9, 1);
        x.addChute(6, 2, 1, 50, 9, 0);
        x.addChute(8, 1, 0, 50, 3, 9);
        Check.addPlan(x, "@0:0-29=0;30-59=1;60-89=2,1x3*2");
        Check.addPlan(x, "@20:0-49=2;50-99=0,1x1");
        for (int i = 0; i < 10; i++) {
            x.arrive(0, 37 * i % 100, 7 * i % 23 + 1, i % 4 == 3 ? 1 : 0);
            x.arrive(1, 61 * i % 100, 11 * i % 41 + 1, i % 5 == 4 ? 2 : 0);
        }
        x.setClosed(2, true);
        x.run(16);
        x.setClosed(2, false);
        return x;
    }

    /** Every slot of the state is used for something else before it comes back. */
    private static void everythingComesBack() {
        for (int runs = 0; runs <= 12; runs++) {
            int times = runs;
            Twin.becomes("it goes on as it would have, run " + runs, () -> restored(times, false),
                () -> restored(times, true), x -> { });
        }
        undoneOneByOne();
    }

    private static ParcelSorter restored(int runs, boolean isUsedBetween) {
        ParcelSorter x = busy();
        x.saveSnapshot();
        if (isUsedBetween) {
            useAnew(x);
        }
        Check.same("the time", 16, x.restoreSnapshot());
        for (int i = 0; i < runs; i++) {
            x.run(5);
        }
        return x;
    }

    private static void useAnew(ParcelSorter x) {
        x.build(30);
        x.addStation(1);
        x.addStation(2);
        x.addStation(3);
        for (int i = 0; i < 8; i++) {
            x.addChute(10 + i, 1, 5, 1, 1, 5);
        }
        Check.addPlan(x, "@0:0-9=7;10-99=6,5,4x3*0");
        for (int i = 0; i < 30; i++) {
            x.arrive(i % 3, 99 - i, i % 3 + 1, i % 3);
            x.run(9);
            x.setClosed(i % 8, true);
        }
    }

    private static void ledgerComesBack() {
        ParcelSorter x = new ParcelSorter();
        dropTwo(x, 50, 1);
        Check.same("the second one first", 1, x.ledger(0, 0));
        x.saveSnapshot();
        x.build(12);
        dropTwo(x, 1, 50);
        Check.same("another order", 0, x.ledger(0, 0));
        x.restoreSnapshot();
        Check.same("the order of the snapshot", 1, x.ledger(0, 0));
        Check.same("the order of the snapshot", 0, x.ledger(1, 0));
    }

    private static void dropTwo(ParcelSorter x, int firstDestination, int secondDestination) {
        x.addStation(11);
        x.addChute(3, 5, 0, 50, 9, 9);
        x.addChute(9, 5, 0, 50, 9, 9);
        Check.addPlan(x, "@0:0-49=0;50-99=1x1");
        x.arrive(0, firstDestination, 1, 0);
        x.arrive(0, secondDestination, 1, 0);
        Check.same("both are dropped", 2, x.run(20));
    }

    private static void undoneOneByOne() {
        for (int i = 0; i <= 8; i++) {
            int left = i;
            Check.same("left: " + i, Twin.everything(() -> ranAndUndone(left, 0)),
                Twin.everything(() -> ranAndUndone(8, 8 - left)));
        }
    }

    private static ParcelSorter ranAndUndone(int runs, int undone) {
        ParcelSorter x = busy();
        for (int i = 0; i < runs; i++) {
            x.run(i + 3);
        }
        for (int i = 0; i < undone; i++) {
            x.undo();
        }
        return x;
    }

    private static void snapshotIsKept() {
        ParcelSorter x = sorter();
        x.run(3);
        x.saveSnapshot();
        x.undo();
        Check.same("undo leaves it", 3, x.restoreSnapshot());
        x.run(10);
        Check.same("twice", 3, x.restoreSnapshot());
        x.run(10);
        Check.same("in place of it", 13, x.saveSnapshot());
        Check.same("a save keeps what can be undone", 0, x.undo());
        x.run(50);
        Check.same("the latest one", 13, x.restoreSnapshot());
        x.build(30);
        Check.same("after build", 13, x.restoreSnapshot());
        Check.same("places", 12, x.count(1));
        Check.refuses("nothing to undo", Check.STATE, () -> x.undo());
    }
}
