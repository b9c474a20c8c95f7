import java.util.ArrayList;
import java.util.List;
import java.util.function.Consumer;
import java.util.function.Supplier;

/** The boundary cases of "Undo" and "Exceptions" and of promises 24 to 26: undo, saveSnapshot, restoreSnapshot. */
public final class UndoEdgeTest {
    public static void main(String[] args) {
        theBusySceneIsBusy();
        nothingToUndo();
        latestEight();
        stepsBack();
        undoneAndDoneAgain();
        eachChange();
        changesWithoutDifference();
        eachLastPlace();
        noChanges();
        refusedCallsAreNoChanges();
        inputAndPaper();
        noSnapshot();
        latestSnapshot();
        snapshotIsKept();
        snapshotSavesEverything();
        snapshotOfAnotherLoop();
        unchangedUnlessSaid();
        Check.end();
    }

    /** What the tests ask of BUSY to be sure that a refused call would be seen to change something. */
    private static void theBusySceneIsBusy() {
        Check.holds("Exceptions", "A method that throws an exception leaves the state unchanged unless its documentation "
            + "says otherwise.");
        ParcelSorter x = Scene.BUSY.get();
        for (int what = 0; what <= 8; what++) {
            Check.yes("count " + what, x.count(what) > 0);
        }
        Check.yes("jams", x.count(14) > 0);
        Check.yes("bags", x.count(15) > 0);
        int[] most = new int[12];
        for (int chute = 0; chute < 4; chute++) {
            for (int what = 0; what < 12; what++) {
                most[what] = Math.max(most[what], x.chute(chute, what));
            }
        }
        for (int what = 0; what < 12; what++) {
            Check.yes("property " + what + " of a chute", most[what] > 0);
        }
        int spoilt = 0;
        for (int parcel = 0; parcel < x.count(5); parcel++) {
            spoilt += x.parcel(parcel, 11);
        }
        Check.yes("a spoilt chute", spoilt > 0);
        Check.same("eight changes", 7, x.undo());
        Check.same("a snapshot", 1, x.restoreSnapshot());
    }

    // ---- promise 24

    private static void nothingToUndo() {
        Check.holds("24", "Throws `IllegalStateException` if there is none");
        Twin.refused("a new object", Check.STATE, Scene.NEW, x -> x.undo());
        Twin.refused("a new loop", Check.STATE, UndoEdgeTest::afterBuild, x -> x.undo());
        Twin.refused("a restored snapshot", Check.STATE, UndoEdgeTest::afterRestore, x -> x.undo());
        Twin.refused("all undone", Check.STATE, UndoEdgeTest::allUndone, x -> x.undo());
        ParcelSorter x = Scene.line();
        Check.same("one change", 0, x.undo());
        Check.refuses("not twice", Check.STATE, () -> x.undo());
        Check.same("as at first", 0, x.count(2));
    }

    private static ParcelSorter afterBuild() {
        ParcelSorter x = Scene.BUSY.get();
        x.build(20);
        return x;
    }

    private static ParcelSorter afterRestore() {
        ParcelSorter x = Scene.BUSY.get();
        x.restoreSnapshot();
        return x;
    }

    private static ParcelSorter allUndone() {
        ParcelSorter x = Scene.BUSY.get();
        for (int i = 0; i < 8; i++) {
            x.undo();
        }
        return x;
    }

    private static void latestEight() {
        Check.holds("Undo", "The latest 8 changes can be undone.");
        Check.holds("24", "Returns the number of changes that can still be undone.");
        for (int changes = 0; changes <= 26; changes++) {
            ParcelSorter x = new ParcelSorter();
            for (int i = 1; i <= changes; i++) {
                x.run(i);
            }
            int time = changes * (changes + 1) / 2;
            int undoable = Math.min(8, changes);
            for (int i = 1; i <= undoable; i++) {
                time -= changes - i + 1;
                Check.same("of " + changes + " changes, undo " + i, undoable - i, x.undo());
                Check.same("the time before it", time, x.count(0));
            }
            int rest = time;
            Check.refuses("of " + changes + " changes, one more", Check.STATE, () -> x.undo());
            Check.same("nothing changed", rest, x.count(0));
        }
    }

    private static void stepsBack() {
        Check.holds("24", "Undoes the latest change that can be undone.");
        List<Consumer<ParcelSorter>> changes = changes();
        for (int done = 1; done <= changes.size(); done++) {
            int all = done;
            for (int undone = 1; undone <= Math.min(8, done); undone++) {
                int left = done - undone;
                ParcelSorter x = after(all);
                for (int i = 0; i < undone; i++) {
                    x.undo();
                }
                ParcelSorter y = after(left);
                Check.same(done + " done, " + undone + " undone", Check.everything(y), Check.everything(x));
            }
        }
    }

    private static ParcelSorter after(int changes) {
        ParcelSorter x = new ParcelSorter();
        for (int i = 0; i < changes; i++) {
            changes().get(i).accept(x);
        }
        return x;
    }

    /** Every kind of change, and twice as many as can be undone. */
    private static List<Consumer<ParcelSorter>> changes() {
        List<Consumer<ParcelSorter>> changes = new ArrayList<>();
        changes.add(x -> x.addStation(11));
        changes.add(x -> x.addChute(3, 1, 0, 10, 9, 3));
        changes.add(x -> Check.addPlan(x, "@0:0-49=0x0*9"));
        changes.add(x -> x.arrive(0, 1, 11, 0));
        changes.add(x -> x.run(5));
        changes.add(x -> x.clear(0));
        changes.add(x -> x.setClosed(0, true));
        changes.add(x -> x.setClosed(0, false));
        changes.add(x -> x.arrive(0, 1, 1, 1));
        changes.add(x -> x.addChute(5, 20, 5, 50, 1, 0));
        changes.add(x -> Check.addPlan(x, "@0:0-49=1;50-99=0x1"));
        changes.add(x -> x.addStation(10));
        changes.add(x -> Check.addPlan(x, "@20:0-99=1,0x0"));
        changes.add(x -> x.arrive(1, 99, 50, 2));
        changes.add(x -> x.run(100));
        changes.add(x -> x.arrive(1, 99, 5, 0));
        changes.add(x -> x.run(1));
        return changes;
    }

    private static void undoneAndDoneAgain() {
        Check.holds("24", "Returns the number of changes that can still be undone.");
        ParcelSorter x = new ParcelSorter();
        for (int round = 0; round < 20; round++) {
            for (int i = 0; i < 3; i++) {
                x.run(1);
            }
            int undoable = Math.min(8, 2 + 2 * round + 1);
            Check.same("round " + round, undoable - 1, x.undo());
            Check.same("time", 2 * round + 2, x.count(0));
        }
        for (int left = 6; left >= 0; left--) {
            Check.same("left", left, x.undo());
        }
        Check.refuses("none is left", Check.STATE, () -> x.undo());
        Check.same("time", 33, x.count(0));
    }

    private static void eachChange() {
        Check.holds("Undo", "The successful calls of addStation, addChute, addPlan, arrive, setClosed, clear and run are "
            + "changes");
        for (int changes = 1; changes <= 8; changes++) {
            ParcelSorter x = after(changes);
            for (int left = changes - 1; left >= 0; left--) {
                Check.same("of " + changes + " changes", left, x.undo());
            }
            Check.refuses("no more", Check.STATE, () -> x.undo());
        }
    }

    private static void changesWithoutDifference() {
        Check.holds("Undo", "also if nothing is different then");
        ParcelSorter x = Scene.line(3);
        Check.addPlan(x, "@0:1=0x0");
        x.setClosed(0, false);
        Check.same("an open one was opened", 3, x.undo());
        x.setClosed(0, true);
        x.setClosed(0, true);
        Check.same("a closed one was closed", 4, x.undo());
        Check.same("it is closed yet", 1, x.chute(0, 4));
        x.undo();
        Check.addPlan(x, "@0:1=0x0");
        Check.same("the same plan once more", 3, x.undo());
        Check.same("there is one yet", 1, x.count(4));
    }

    /** The last station, chute, plan and parcel that there can be, undone and done again. */
    private static void eachLastPlace() {
        Check.holds("24", "Undoes the latest change that can be undone.");
        ParcelSorter x = new ParcelSorter();
        for (int i = 1; i <= 3; i++) {
            x.addStation(i);
        }
        x.undo();
        Check.same("the third station", 2, x.addStation(3));
        for (int i = 4; i <= 11; i++) {
            x.addChute(i, 1, 0, 50, 1, 0);
        }
        x.undo();
        Check.same("the eighth chute", 7, x.addChute(11, 1, 0, 50, 1, 0));
        for (int i = 1; i <= 5; i++) {
            Check.addPlan(x, "@" + i + ":1=7x7");
        }
        x.undo();
        Check.same("the fifth plan", 5, Check.addPlan(x, "@9999:1=7x7"));
        for (int i = 0; i < 10; i++) {
            x.arrive(2, i, 1, 0);
        }
        x.undo();
        Check.same("the tenth that waits", 9, x.arrive(2, 50, 1, 0));
        Check.same("its destination", 50, x.parcel(9, 0));
        Check.refuses("no eleventh", Check.STATE, () -> x.arrive(2, 51, 1, 0));
        ParcelSorter y = Scene.FULL.get();
        y.undo();
        Check.same("the sixtieth parcel", 59, y.arrive(2, 51, 1, 0));
        Check.refuses("no more", Check.STATE, () -> y.arrive(2, 51, 1, 0));
    }

    private static void noChanges() {
        Check.holds("Undo", "The successful calls of addStation, addChute, addPlan, arrive, setClosed, clear and run are "
            + "changes");
        ParcelSorter x = Scene.BUSY.get();
        x.feed('=');
        x.plan(0, 0);
        x.route(0, 1, 0);
        x.find(61, 0);
        x.parcel(0, 0);
        x.carried(0);
        x.chute(0, 0);
        x.station(0, 0);
        x.count(0);
        x.meanRounds();
        x.foresee(0, 200, true);
        Check.refuses("it is never empty", Check.NONE, () -> x.untilEmpty(200));
        x.audit();
        x.ledger(0, 0);
        x.saveSnapshot();
        x.write(0);
        x.paper(0);
        Check.same("the latest change is that of BUSY", 7, x.undo());
        Check.same("its parcel", 21, x.count(5));
    }

    private static void refusedCallsAreNoChanges() {
        Check.holds("Undo", "a call of addPlan that returns a fault is not successful");
        Twin.becomes("a fault", Scene::withFivePlans, Scene::withFivePlans, x -> {
            Check.addPlan(x, "@0:1=0x0:");
            Check.addPlan(x, "");
            Check.addPlan(x, "@");
        });
        ParcelSorter x = Scene.withFivePlans();
        for (int i = 0; i < 20; i++) {
            Check.addPlan(x, "@0:1=");
        }
        Check.same("no fault counts", 5, x.undo());
        Check.same("the fifth plan", 4, x.count(4));
    }

    private static void inputAndPaper() {
        Check.holds("25", "Saves everything but the input, the paper and what can be undone");
        ParcelSorter x = Scene.withFivePlans();
        x.write(0);
        Check.feed(x, "@7");
        x.saveSnapshot();
        x.write(4);
        Check.same("three signs", 3, x.feed(':'));
        Check.same("a snapshot leaves what can be undone", 5, x.undo());
        Check.same("the paper after undo", "@5:1=0x0*8", Check.paper(x, 10));
        Check.same("the input after undo", 4, x.feed('1'));
        x.restoreSnapshot();
        Check.same("five plans", 5, x.count(4));
        Check.same("the paper after restoreSnapshot", "@5:1=0x0*8", Check.paper(x, 10));
        Check.same("the input after restoreSnapshot", 5, x.feed('='));
    }

    // ---- promises 25 and 26

    private static void noSnapshot() {
        Check.holds("26", "Throws `IllegalStateException` if no snapshot was saved");
        Twin.refused("a new object", Check.STATE, Scene.NEW, x -> x.restoreSnapshot());
        Twin.refused("a full one", Check.STATE, Scene.FULL, x -> x.restoreSnapshot());
        ParcelSorter x = new ParcelSorter();
        Check.holds("25", "Returns the time.");
        Check.same("the time of nothing", 0, x.saveSnapshot());
        x.run(7);
        Check.holds("26", "Returns the time.");
        Check.same("the time of nothing", 0, x.restoreSnapshot());
        Check.same("it is that time", 0, x.count(0));
    }

    private static void latestSnapshot() {
        Check.holds("25", "in place of an earlier snapshot");
        ParcelSorter x = new ParcelSorter();
        for (int i = 1; i <= 20; i++) {
            x.run(i);
            int time = i * (i + 1) / 2;
            Check.same("saved", time, x.saveSnapshot());
        }
        x.run(100);
        Check.same("the latest", 210, x.restoreSnapshot());
        Check.same("its time", 210, x.count(0));
    }

    private static void snapshotIsKept() {
        Check.holds("26", "Restores what was saved by the latest snapshot, which is kept.");
        for (int times = 2; times <= 3; times++) {
            int t = times;
            Twin.becomes("restored " + t + " times", () -> restored(1), () -> restored(t), x -> { });
        }
        Twin.becomes("restored after build", () -> restored(1), () -> restored(1), x -> {
            x.build(20);
            x.restoreSnapshot();
        });
        Check.holds("26", "No changes can be undone afterwards.");
        Twin.refused("undo", Check.STATE, () -> restored(1), x -> x.undo());
        Twin.becomes("but what comes then", () -> restored(1), () -> restored(1), x -> {
            x.run(1);
            Check.same("the only one", 0, x.undo());
        });
    }

    private static ParcelSorter restored(int times) {
        ParcelSorter x = Scene.midst();
        x.saveSnapshot();
        for (int i = 0; i < times; i++) {
            x.run(50);
            x.setClosed(i, true);
            Check.addPlan(x, "@" + i + ":5=0x0");
            x.arrive(0, 5, 5, 0);
            x.restoreSnapshot();
        }
        return x;
    }

    private static void snapshotSavesEverything() {
        Check.holds("25", "Saves everything but the input, the paper and what can be undone");
        for (Supplier<ParcelSorter> scene : List.of(Scene.BUSY, Scene.FULL, Scene.ALL_DROPPED, Scene.NEW)) {
            Twin.becomes("all comes back", () -> savedAndRestored(scene, false), () -> savedAndRestored(scene, true),
                x -> { });
        }
    }

    private static ParcelSorter savedAndRestored(Supplier<ParcelSorter> scene, boolean isUsedBetween) {
        ParcelSorter x = scene.get();
        emptyInput(x);
        x.saveSnapshot();
        if (isUsedBetween) {
            Scene.useAnew(x);
        }
        x.restoreSnapshot();
        return x;
    }

    private static void emptyInput(ParcelSorter x) {
        try {
            x.addPlan();
        } catch (IllegalStateException e) {
            Check.same("there are five plans, but the input is empty now", 5, x.count(4));
        }
    }

    private static void snapshotOfAnotherLoop() {
        Check.holds("26", "Restores what was saved by the latest snapshot");
        for (int places : new int[] {12, 30}) {
            ParcelSorter x = new ParcelSorter();
            x.build(places);
            x.addStation(places - 1);
            Scene.arrive(x, 1);
            x.run(1);
            x.saveSnapshot();
            x.build(42 - places);
            x.restoreSnapshot();
            Check.same("places", places, x.count(1));
            Check.same("the last carrier", 0, x.carried(places - 1));
            Check.refuses("none behind it", Check.INDEX, () -> x.carried(places));
            x.run(1);
            Check.same("from the last place to place 0", 0, x.carried(0));
            x.run(places);
            Check.same("once round", 0, x.carried(0));
        }
    }

    // ---- exceptions

    private static void unchangedUnlessSaid() {
        Check.holds("Exceptions", "A method that throws an exception leaves the state unchanged unless its documentation "
            + "says otherwise.");
        Twin.refused("all of them, one after the other", Check.STATE, Scene.BUSY, x -> {
            Check.refuses("build", Check.RANGE, () -> x.build(11));
            Check.refuses("addStation", Check.RANGE, () -> x.addStation(14));
            Check.refuses("addChute", Check.RANGE, () -> x.addChute(13, 21, 0, 1, 1, 0));
            Check.refuses("plan", Check.INDEX, () -> x.plan(2, 0));
            Check.refuses("route", Check.NONE, () -> x.route(0, 90, 0));
            Check.refuses("arrive", Check.RANGE, () -> x.arrive(0, 1, 51, 0));
            Check.refuses("find", Check.NONE, () -> x.find(2, 0));
            Check.refuses("parcel", Check.INDEX, () -> x.parcel(22, 0));
            Check.refuses("carried", Check.INDEX, () -> x.carried(14));
            Check.refuses("run", Check.RANGE, () -> x.run(101));
            Check.refuses("setClosed", Check.INDEX, () -> x.setClosed(4, true));
            Check.refuses("clear", Check.INDEX, () -> x.clear(4));
            Check.refuses("chute", Check.RANGE, () -> x.chute(3, 12));
            Check.refuses("station", Check.RANGE, () -> x.station(1, 4));
            Check.refuses("count", Check.RANGE, () -> x.count(17));
            Check.refuses("foresee", Check.RANGE, () -> x.foresee(0, 201, true));
            Check.refuses("untilEmpty", Check.NONE, () -> x.untilEmpty(1));
            Check.refuses("ledger", Check.INDEX, () -> x.ledger(60, 0));
            Check.refuses("write", Check.INDEX, () -> x.write(2));
            Check.refuses("paper", Check.INDEX, () -> x.paper(22));
            x.clear(firstNotJammed(x));
        });
    }

    private static int firstNotJammed(ParcelSorter x) {
        for (int chute = 0; chute < x.count(3); chute++) {
            if (x.chute(chute, 2) == 0) {
                return chute;
            }
        }
        return -1;
    }
}
