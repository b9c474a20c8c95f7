/** Promises 20 to 23: foresee, untilEmpty, audit, ledger. */
public final class AheadTest {
    public static void main(String[] args) {
        foresee();
        foreseeChangesNothing();
        untilEmpty();
        audit();
        ledger();
        Check.end();
    }

    /** Parcel 0 is dropped into chute 0 at tick 5; parcel 1 passes it at tick 6 and is dropped at tick 18. */
    private static ParcelSorter sorter() {
        ParcelSorter x = new ParcelSorter();
        x.addStation(11);
        x.addChute(3, 1, 0, 50, 9, 9);
        x.addChute(5, 5, 0, 50, 9, 9);
        Check.addPlan(x, "@0:0-49=0x1");
        x.arrive(0, 1, 1, 0);
        x.arrive(0, 2, 1, 0);
        return x;
    }

    private static void foresee() {
        ParcelSorter x = sorter();
        Check.refuses("parcel 2", Check.INDEX, () -> x.foresee(2, 1, false));
        Check.refuses("parcel -1 goes first", Check.INDEX, () -> x.foresee(-1, 0, true));
        for (int bad : new int[] {0, 201, -1, Integer.MAX_VALUE, Integer.MIN_VALUE}) {
            Check.refuses("ticks " + bad, Check.RANGE, () -> x.foresee(0, bad, true));
        }
        Check.refuses("4 ticks", Check.NONE, () -> x.foresee(0, 4, false));
        Check.same("5 ticks", 0, x.foresee(0, 5, false));
        Check.same("tick", 5, x.foresee(0, 5, true));
        Check.same("200 ticks", 5, x.foresee(0, 200, true));
        Check.refuses("17 ticks", Check.NONE, () -> x.foresee(1, 17, true));
        Check.same("tick", 18, x.foresee(1, 18, true));
        Check.same("chute", 0, x.foresee(1, 18, false));
        x.setClosed(0, true);
        Check.refuses("closed for ever, but for the bound", Check.NONE, () -> x.foresee(0, 54, false));
        Check.same("the exception chute", 1, x.foresee(0, 55, false));
        Check.same("tick", 55, x.foresee(0, 55, true));
        x.setClosed(0, false);
        x.run(6);
        Check.same("dropped already: its tick", 5, x.foresee(0, 1, true));
        Check.same("and its chute", 0, x.foresee(0, 1, false));
        Check.refuses("11 ticks", Check.NONE, () -> x.foresee(1, 11, true));
        Check.same("the tick itself", 18, x.foresee(1, 12, true));
        Check.refuses("ticks are looked at first", Check.RANGE, () -> x.foresee(0, 201, true));
    }

    private static void foreseeChangesNothing() {
        ParcelSorter x = sorter();
        ParcelSorter y = sorter();
        x.run(3);
        y.run(3);
        x.foresee(1, 200, true);
        x.untilEmpty(200);
        Check.refuses("not within 2", Check.NONE, () -> x.foresee(1, 2, true));
        Check.refuses("not within 2", Check.NONE, () -> x.untilEmpty(2));
        for (int what = 0; what <= 16; what++) {
            Check.same("count " + what, y.count(what), x.count(what));
        }
        for (int what = 0; what <= 11; what++) {
            Check.same("chute " + what, y.chute(0, what), x.chute(0, what));
            Check.same("parcel " + what, y.parcel(1, what), x.parcel(1, what));
        }
        Check.same("no change", y.undo(), x.undo());
    }

    private static void untilEmpty() {
        ParcelSorter x = new ParcelSorter();
        for (int bad : new int[] {0, 201, -1, Integer.MAX_VALUE, Integer.MIN_VALUE}) {
            Check.refuses("ticks " + bad, Check.RANGE, () -> x.untilEmpty(bad));
        }
        Check.same("nothing there", 0, x.untilEmpty(1));
        ParcelSorter y = sorter();
        Check.refuses("17", Check.NONE, () -> y.untilEmpty(17));
        Check.same("18", 18, y.untilEmpty(18));
        Check.same("200", 18, y.untilEmpty(200));
        y.run(10);
        Check.refuses("7", Check.NONE, () -> y.untilEmpty(7));
        Check.same("8", 8, y.untilEmpty(8));
        y.run(8);
        Check.same("0 now", 0, y.untilEmpty(1));
        y.arrive(0, 3, 1, 0);
        Check.refuses("1", Check.NONE, () -> y.untilEmpty(1));
        Check.refuses("range", Check.RANGE, () -> y.untilEmpty(0));
    }

    private static void audit() {
        ParcelSorter x = new ParcelSorter();
        Check.yes("empty", x.audit());
        ParcelSorter y = sorter();
        for (int i = 0; i < 30; i++) {
            Check.yes("after " + i + " ticks", y.audit());
            y.run(1);
            if (i % 5 == 0) {
                y.arrive(0, 11 * i % 60, 1 + i, i / 5 % 3);
            }
        }
        y.undo();
        Check.yes("after undo", y.audit());
        y.saveSnapshot();
        y.build(20);
        Check.yes("after build", y.audit());
        y.restoreSnapshot();
        Check.yes("after restore", y.audit());
        Check.refuses("audit is no change", Check.STATE, () -> y.undo());
    }

    private static void ledger() {
        ParcelSorter x = sorter();
        Check.refuses("none yet", Check.INDEX, () -> x.ledger(0, 0));
        x.arrive(0, 77, 1, 0);
        x.run(30);
        entry(x, 0, 0, 0, 5, 0);
        entry(x, 1, 2, 1, 9, 1);
        entry(x, 2, 1, 0, 18, 0);
        Check.refuses("entry 3", Check.INDEX, () -> x.ledger(3, 0));
        Check.refuses("entry -1 goes first", Check.INDEX, () -> x.ledger(-1, 4));
        Check.refuses("what 4", Check.RANGE, () -> x.ledger(0, 4));
        Check.refuses("what -1", Check.RANGE, () -> x.ledger(2, -1));
        x.undo();
        Check.refuses("undone", Check.INDEX, () -> x.ledger(0, 0));
    }

    private static void entry(ParcelSorter x, int i, int... due) {
        for (int what = 0; what < 4; what++) {
            Check.same("entry " + i + ", " + what, due[what], x.ledger(i, what));
        }
    }
}
