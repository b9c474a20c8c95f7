/** Promises 13 to 16, 18 and 19, and how ticks, scanning, trying and verdicts are described. */
public final class RunningTest {
    public static void main(String[] args) {
        run();
        reasons();
        exceptionReasons();
        boundAndRounds();
        worn();
        tryingAtAClosedChute();
        tooHeavy();
        spoiltSet();
        gap();
        bags();
        bagsWithoutSwap();
        verdicts();
        verdictByThePlanOfTheDrop();
        setClosed();
        clear();
        chute();
        count();
        meanRounds();
        Check.end();
    }

    /** A station at place 11, so that a parcel is put on at tick 1 and scanned at tick 2. */
    private static ParcelSorter sorter() {
        ParcelSorter x = new ParcelSorter();
        x.addStation(11);
        return x;
    }

    private static void run() {
        ParcelSorter x = sorter();
        for (int bad : new int[] {0, 101, -1, Integer.MAX_VALUE, Integer.MIN_VALUE}) {
            Check.refuses("run " + bad, Check.RANGE, () -> x.run(bad));
        }
        Check.same("time", 0, x.count(0));
        Check.same("run(100)", 0, x.run(100));
        Check.same("run(1)", 0, x.run(1));
        Check.same("time", 101, x.count(0));
        x.addChute(1, 20, 0, 50, 1, 0);
        x.addChute(2, 20, 0, 50, 1, 0);
        Check.addPlan(x, "@0:0-49=0;50-99=1x1");
        x.arrive(0, 50, 1, 0);
        x.arrive(0, 1, 1, 0);
        x.arrive(0, 2, 1, 0);
        Check.same("scanned", 0, x.run(2));
        Check.same("past chute 0", 0, x.run(1));
        Check.same("both in one tick", 2, x.run(1));
        Check.same("the chute of lower number first", 1, x.ledger(0, 0));
        Check.same("then the other", 0, x.ledger(1, 0));
        Check.same("the last one", 1, x.run(100));
    }

    private static void reasons() {
        ParcelSorter x = sorter();
        x.addChute(3, 20, 0, 10, 9, 0);
        x.addChute(5, 20, 0, 50, 9, 0);
        x.addChute(7, 20, 0, 50, 9, 0);
        x.arrive(0, 11, 1, 0);
        x.run(2);
        Check.same("no plan", 5, x.parcel(0, 8));
        Check.same("no target", -1, x.parcel(0, 7));
        Check.addPlan(x, "@14:11=0,1;12=1;11=2x2*9");
        x.run(11);
        Check.same("the old reason until the next scan", 5, x.parcel(0, 8));
        x.run(1);
        Check.same("the plan of this very tick", 0, x.parcel(0, 8));
        Check.same("the first chute", 0, x.parcel(0, 7));
        x.setClosed(0, true);
        x.run(3);
        Check.same("a pass", 1, x.chute(0, 9));
        Check.same("no target any more", -1, x.parcel(0, 7));
        Check.same("the reason stays", 0, x.parcel(0, 8));
        x.run(9);
        Check.same("another chute", 1, x.parcel(0, 8));
        Check.same("the second chute", 1, x.parcel(0, 7));
        x.setClosed(1, true);
        x.run(12);
        Check.same("no chute", 6, x.parcel(0, 8));
        Check.same("no target", -1, x.parcel(0, 7));
        x.setClosed(1, false);
        x.run(12);
        Check.same("open again", 1, x.parcel(0, 8));
        Check.same("scans", 5, x.parcel(0, 6));
    }

    private static void exceptionReasons() {
        for (int i = 0; i < 2; i++) {
            boolean isClosed = i == 1;
            int more = isClosed ? 10 : 0;
            ParcelSorter x = sorter();
            x.addChute(3, 20, 0, 50, 9, 0);
            x.addChute(5, 20, 0, 50, 9, 0);
            Check.addPlan(x, "@0:10-20=1x0*0");
            x.setClosed(0, isClosed);
            x.arrive(0, 10, 1, 2);
            x.arrive(0, 21, 1, 0);
            x.arrive(0, 13, 1, 1);
            x.run(4);
            Check.same("unreadable", 2 + more, x.parcel(0, 8));
            Check.same("no rule", 4 + more, x.parcel(1, 8));
            Check.same("no rule for what is read", 4 + more, x.parcel(2, 8));
            for (int parcel = 0; parcel < 3; parcel++) {
                Check.same("target", isClosed ? -1 : 0, x.parcel(parcel, 7));
            }
            x.run(12);
            Check.same("dropped, or round again", isClosed ? 0 : 3, x.count(8));
            Check.same("unreadable goes before the bound", 2 + more, x.parcel(0, 8));
            Check.same("the bound goes before the rule", isClosed ? 13 : 4, x.parcel(1, 8));
        }
    }

    private static void boundAndRounds() {
        ParcelSorter x = sorter();
        x.addChute(3, 20, 0, 50, 9, 0);
        x.addChute(5, 20, 0, 50, 9, 0);
        Check.addPlan(x, "@0:10=1x0*2");
        x.setClosed(1, true);
        x.arrive(0, 10, 1, 0);
        x.run(2 + 24);
        Check.same("2 rounds are not more than 2", 6, x.parcel(0, 8));
        Check.same("rounds", 2, x.count(13));
        x.run(12);
        Check.same("3 rounds are", 3, x.parcel(0, 8));
        Check.same("the exception chute", 0, x.parcel(0, 7));
        Check.same("dropped", 1, x.run(3));
        Check.same("verdict", 1, x.parcel(0, 10));
        Check.same("rounds", 3, x.count(13));
        Check.same("greatest", 3, x.count(16));
        Check.same("mean", 3.0, x.meanRounds());
    }

    private static void worn() {
        ParcelSorter x = sorter();
        x.addChute(3, 20, 0, 50, 9, 0);
        x.addChute(5, 20, 0, 50, 9, 0);
        x.addChute(7, 20, 0, 50, 9, 0);
        Check.addPlan(x, "@0:12=0;21=1;5=0;50=1;90=0;9=1x2");
        int[] destinations = {12, 21, 5, 50, 90, 9, 0, 99};
        int[] chutes = {1, 0, 1, 0, 1, 0, 2, 2};
        int[] verdicts = {2, 2, 2, 2, 2, 2, 1, 1};
        for (int destination : destinations) {
            x.arrive(0, destination, 1, 1);
        }
        x.run(50);
        for (int i = 0; i < destinations.length; i++) {
            Check.same("chute of " + destinations[i], chutes[i], x.parcel(i, 5));
            Check.same("verdict of " + destinations[i], verdicts[i], x.parcel(i, 10));
        }
        Check.same("misread", 6, x.count(11));
        Check.same("exceptions", 2, x.count(10));
        wornButRight();
    }

    private static void wornButRight() {
        ParcelSorter x = sorter();
        x.addChute(3, 20, 0, 50, 9, 0);
        x.addChute(5, 20, 0, 50, 9, 0);
        Check.addPlan(x, "@0:10-90=0x1");
        x.arrive(0, 12, 1, 1);
        x.arrive(0, 33, 1, 1);
        x.run(20);
        Check.same("another destination of the same rule", 0, x.parcel(0, 10));
        Check.same("the same digits", 0, x.parcel(1, 10));
    }

    private static void tryingAtAClosedChute() {
        ParcelSorter x = sorter();
        x.addChute(3, 1, 0, 50, 9, 9);
        Check.addPlan(x, "@0:0-99=0x0*9");
        x.arrive(0, 1, 1, 0);
        x.arrive(0, 1, 1, 0);
        Check.same("the first one fills it", 1, x.run(6));
        Check.same("the second one was scanned before", 0, x.parcel(1, 8));
        Check.same("a pass", 1, x.chute(0, 9));
        Check.same("no jam", 0, x.chute(0, 8));
        Check.same("on the loop", 1, x.count(7));
        x.run(9);
        Check.same("scanned at 15, while usable again", 0, x.parcel(1, 7));
        Check.same("dropped", 1, x.run(3));
    }

    private static void tooHeavy() {
        ParcelSorter x = sorter();
        x.addChute(3, 20, 0, 10, 3, 0);
        x.addChute(4, 20, 0, 50, 3, 0);
        Check.addPlan(x, "@0:1=0;2=0,1x0*1");
        x.arrive(0, 1, 10, 0);
        x.arrive(0, 1, 11, 0);
        x.arrive(0, 2, 12, 0);
        x.run(5);
        Check.same("the limit itself is dropped", 2, x.parcel(0, 4));
        x.run(1);
        Check.same("spoilt", 1, x.parcel(1, 11));
        Check.same("jammed", 3, x.chute(0, 2));
        Check.same("not usable", 0, x.chute(0, 5));
        Check.same("jams", 1, x.chute(0, 8));
        Check.same("no pass", 0, x.chute(0, 9));
        Check.same("no target", -1, x.parcel(1, 7));
        x.run(1);
        Check.same("a pass of the next one", 1, x.chute(0, 9));
        Check.same("which is not spoilt", 0, x.parcel(2, 11));
        Check.same("jammed", 2, x.chute(0, 2));
        x.run(1);
        Check.same("jammed", 1, x.chute(0, 2));
        x.run(1);
        Check.same("no longer", 0, x.chute(0, 2));
        Check.same("usable", 1, x.chute(0, 5));
        x.run(7);
        Check.same("the rule's only chute is spoilt", 6, x.parcel(1, 8));
        Check.same("the other is not spoilt", 0, x.parcel(2, 7));
        x.run(12);
        Check.same("the exception chute is spoilt", 13, x.parcel(1, 8));
        Check.same("no target", -1, x.parcel(1, 7));
        Check.same("two are spoilt for", 1, x.parcel(2, 11));
        Check.same("jams", 2, x.count(14));
    }

    private static void spoiltSet() {
        ParcelSorter x = sorter();
        x.addChute(3, 20, 0, 50, 1, 0);
        x.addChute(5, 20, 0, 10, 1, 0);
        x.addChute(7, 20, 0, 10, 1, 0);
        x.addChute(9, 20, 0, 11, 1, 0);
        Check.addPlan(x, "@0:1=1,2,3x0");
        x.arrive(0, 1, 11, 0);
        x.run(2 + 5);
        Check.same("chute 1", 2, x.parcel(0, 11));
        x.run(7 + 7);
        Check.same("chutes 1 and 2", 6, x.parcel(0, 11));
        Check.same("dropped", 1, x.run(5 + 9));
        Check.same("by the third", 1, x.parcel(0, 8));
        Check.same("into the third", 3, x.parcel(0, 5));
        Check.same("they stay spoilt", 6, x.parcel(0, 11));
    }

    /** A parcel that arrives at time t is at the chute at tick t + 5. */
    private static void gap() {
        for (int gap = 0; gap <= 5; gap++) {
            for (int distance = 1; distance <= 6; distance++) {
                ParcelSorter x = sorter();
                x.addChute(3, 20, gap, 50, 9, 0);
                Check.addPlan(x, "@0:0-99=0x0");
                x.arrive(0, 1, 1, 0);
                x.run(distance);
                x.arrive(0, 1, 1, 0);
                x.run(5);
                boolean isTooSoon = distance < gap;
                Check.same("the first one has none before it", 5, x.parcel(0, 9));
                Check.same("gap " + gap + ", " + distance, isTooSoon ? 1 : 2, x.parcel(1, 4));
                Check.same("jams", isTooSoon ? 1 : 0, x.chute(0, 8));
                Check.same("jammed", isTooSoon ? 9 : 0, x.chute(0, 2));
                Check.same("no pass", 0, x.chute(0, 9));
                Check.same("no target", -1, x.parcel(1, 7));
                Check.same("no chute is spoilt by that", 0, x.parcel(1, 11));
                Check.same("latest drop", isTooSoon ? 5 : 5 + distance, x.chute(0, 6));
            }
        }
        heavyGoesBeforeGap();
    }

    private static void heavyGoesBeforeGap() {
        ParcelSorter x = sorter();
        x.addChute(3, 20, 5, 10, 9, 0);
        Check.addPlan(x, "@0:0-99=0x0");
        x.arrive(0, 1, 1, 0);
        x.arrive(0, 1, 11, 0);
        x.run(6);
        Check.same("spoilt", 1, x.parcel(1, 11));
        Check.same("one jam", 1, x.chute(0, 8));
    }

    private static void bags() {
        ParcelSorter x = sorter();
        x.addChute(3, 2, 0, 50, 9, 3);
        Check.addPlan(x, "@0:0-99=0x0");
        for (int i = 0; i < 3; i++) {
            x.arrive(0, 1, 1, 0);
        }
        x.run(5);
        bag(x, 1, 0, 1, 0, 0);
        x.run(1);
        bag(x, 2, 3, 0, 1, 0);
        x.run(1);
        bag(x, 2, 2, 0, 1, 1);
        x.run(1);
        bag(x, 2, 1, 0, 1, 1);
        x.run(1);
        bag(x, 0, 0, 1, 1, 1);
        x.run(10);
        bag(x, 1, 0, 1, 1, 1);
        Check.same("into it", 3, x.chute(0, 7));
        Check.same("bags of all", 1, x.count(15));
    }

    private static void bag(ParcelSorter x, int content, int swapped, int usable, int bags, int passes) {
        Check.same("content", content, x.chute(0, 1));
        Check.same("swapped", swapped, x.chute(0, 3));
        Check.same("usable", usable, x.chute(0, 5));
        Check.same("bags", bags, x.chute(0, 10));
        Check.same("passes", passes, x.chute(0, 9));
        Check.same("not jammed", 0, x.chute(0, 2));
    }

    private static void bagsWithoutSwap() {
        ParcelSorter x = sorter();
        x.addChute(3, 1, 0, 50, 9, 0);
        Check.addPlan(x, "@0:0-99=0x0");
        for (int i = 0; i < 3; i++) {
            x.arrive(0, 1, 1, 0);
        }
        x.run(5);
        bag(x, 0, 0, 1, 1, 0);
        Check.same("the others too", 2, x.run(2));
        bag(x, 0, 0, 1, 3, 0);
    }

    private static void verdicts() {
        ParcelSorter x = sorter();
        x.addChute(3, 20, 0, 50, 9, 0);
        x.addChute(5, 20, 0, 50, 9, 0);
        Check.addPlan(x, "@0:12=1,0;13=0;30=1x0");
        x.arrive(0, 12, 1, 0);
        x.arrive(0, 13, 1, 0);
        x.arrive(0, 99, 1, 2);
        x.arrive(0, 13, 1, 1);
        x.arrive(0, 3, 1, 1);
        x.run(30);
        Check.same("right", 0, x.parcel(0, 10));
        Check.same("the exception chute, though the rule has it", 1, x.parcel(1, 10));
        Check.same("which is no exception for the reason", 0, x.parcel(1, 8));
        Check.same("unreadable", 1, x.parcel(2, 10));
        Check.same("misread, no rule", 1, x.parcel(3, 10));
        Check.same("misread, its true destination has no rule", 2, x.parcel(4, 10));
        int[] counts = {1, 3, 1, 0};
        for (int i = 0; i < 4; i++) {
            Check.same("verdicts " + i, counts[i], x.count(9 + i));
        }
    }

    private static void verdictByThePlanOfTheDrop() {
        String[] later = {"@6:1=1x2", "@5:1=1x2", "@5:2=0x2", "@5:2=1x0", "@5:1=1,0x2"};
        int[] due = {0, 3, 3, 1, 0};
        for (int i = 0; i < later.length; i++) {
            ParcelSorter x = sorter();
            x.addChute(3, 20, 0, 50, 9, 0);
            x.addChute(5, 20, 0, 50, 9, 0);
            x.addChute(7, 20, 0, 50, 9, 0);
            Check.addPlan(x, "@0:1=0x1");
            Check.addPlan(x, later[i]);
            x.arrive(0, 1, 1, 0);
            Check.same("dropped", 1, x.run(5));
            Check.same("verdict by " + later[i], due[i], x.parcel(0, 10));
            Check.same("count of it", 1, x.count(9 + due[i]));
        }
    }

    private static void setClosed() {
        ParcelSorter x = sorter();
        x.addChute(3, 20, 0, 50, 9, 0);
        Check.no("open at first", x.setClosed(0, true));
        Check.same("closed", 1, x.chute(0, 4));
        Check.same("not usable", 0, x.chute(0, 5));
        Check.yes("closed before", x.setClosed(0, true));
        Check.yes("closed before", x.setClosed(0, false));
        Check.no("opened before", x.setClosed(0, false));
        Check.same("open", 0, x.chute(0, 4));
        Check.same("usable", 1, x.chute(0, 5));
        Check.refuses("chute 1", Check.INDEX, () -> x.setClosed(1, true));
        Check.refuses("chute -1", Check.INDEX, () -> x.setClosed(-1, false));
        Check.same("each is a change", 5, x.undo());
    }

    private static void clear() {
        ParcelSorter x = sorter();
        Check.refuses("no chute", Check.INDEX, () -> x.clear(0));
        x.addChute(3, 20, 0, 10, 9, 0);
        Check.refuses("not jammed", Check.STATE, () -> x.clear(0));
        Check.addPlan(x, "@0:0-99=0x0");
        x.arrive(0, 1, 11, 0);
        x.run(5);
        x.run(2);
        Check.refuses("chute -1", Check.INDEX, () -> x.clear(-1));
        Check.same("it would still be jammed for", 7, x.clear(0));
        Check.same("no longer", 0, x.chute(0, 2));
        Check.same("usable", 1, x.chute(0, 5));
        Check.same("the jam still counts", 1, x.chute(0, 8));
        Check.refuses("not again", Check.STATE, () -> x.clear(0));
        Check.same("still spoilt", 1, x.parcel(0, 11));
        Check.same("a refused clear is no change", 6, x.undo());
        Check.same("jammed again", 7, x.chute(0, 2));
    }

    private static void chute() {
        ParcelSorter x = sorter();
        x.addChute(3, 2, 0, 50, 4, 6);
        x.addChute(8, 5, 0, 10, 4, 0);
        Check.addPlan(x, "@0:0-49=0;50-99=1x0");
        x.arrive(0, 1, 1, 0);
        x.arrive(0, 50, 11, 0);
        x.arrive(0, 51, 1, 0);
        x.arrive(0, 1, 1, 0);
        x.arrive(0, 2, 1, 0);
        x.run(4);
        Check.same("targets of 0", 1, x.chute(0, 11));
        Check.same("targets of 1", 2, x.chute(1, 11));
        x.run(7);
        is(x, 0, 3, 2, 0, 3, 0, 0, 8, 2, 0, 1, 1, 0);
        is(x, 1, 8, 0, 4, 0, 0, 0, -1, 0, 1, 0, 0, 1);
        x.setClosed(1, true);
        x.run(1);
        is(x, 0, 3, 2, 0, 2, 0, 0, 8, 2, 0, 1, 1, 0);
        is(x, 1, 8, 0, 3, 0, 1, 0, -1, 0, 1, 1, 0, 0);
        for (int bad : new int[] {-1, 12, Integer.MAX_VALUE, Integer.MIN_VALUE}) {
            Check.refuses("what " + bad, Check.RANGE, () -> x.chute(0, bad));
            Check.refuses("chute goes first", Check.INDEX, () -> x.chute(2, bad));
        }
        Check.refuses("chute -1", Check.INDEX, () -> x.chute(-1, 0));
    }

    private static void is(ParcelSorter x, int chute, int... due) {
        for (int what = 0; what < due.length; what++) {
            Check.same("chute " + chute + ", " + what, due[what], x.chute(chute, what));
        }
    }

    private static void count() {
        ParcelSorter x = new ParcelSorter();
        x.build(13);
        x.addStation(12);
        x.addStation(2);
        x.addChute(3, 1, 0, 50, 4, 0);
        x.addChute(5, 1, 0, 10, 4, 0);
        x.addChute(9, 1, 0, 50, 4, 9);
        Check.addPlan(x, "@0:0-49=0;50-99=1x2*9");
        Check.addPlan(x, "@90:0-49=0x2");
        x.arrive(0, 1, 1, 0);
        x.arrive(0, 50, 11, 0);
        x.arrive(0, 60, 1, 1);
        x.arrive(0, 1, 1, 2);
        x.run(8);
        x.arrive(1, 7, 50, 0);
        x.arrive(1, 7, 50, 0);
        x.run(26);
        x.arrive(1, 7, 50, 0);
        int[] due = {34, 13, 2, 3, 2, 7, 1, 1, 5, 3, 1, 1, 0, 2, 1, 5, 2};
        for (int what = 0; what < due.length; what++) {
            Check.same("count " + what, due[what], x.count(what));
        }
        for (int bad : new int[] {-1, 17, Integer.MAX_VALUE, Integer.MIN_VALUE}) {
            Check.refuses("count " + bad, Check.RANGE, () -> x.count(bad));
        }
    }

    private static void meanRounds() {
        ParcelSorter x = sorter();
        Check.refuses("no parcel", Check.ARITHMETIC, () -> x.meanRounds());
        x.addChute(3, 20, 0, 50, 9, 0);
        x.addChute(5, 20, 0, 50, 9, 0);
        Check.addPlan(x, "@0:0-49=0;50-99=1x0*9");
        x.setClosed(0, true);
        x.setClosed(1, true);
        x.arrive(0, 1, 1, 0);
        x.arrive(0, 50, 1, 0);
        x.run(2 + 12);
        Check.refuses("none was dropped", Check.ARITHMETIC, () -> x.meanRounds());
        x.setClosed(0, false);
        x.run(24);
        Check.same("two rounds", 2.0, x.meanRounds());
        Check.same("those on the loop do not count", 4, x.count(13));
        x.arrive(0, 1, 1, 0);
        x.run(12);
        Check.same("two rounds and none", 1.0, x.meanRounds());
        x.arrive(0, 1, 1, 0);
        x.run(12);
        Check.same("two thirds", 2.0 / 3.0, x.meanRounds());
    }
}
