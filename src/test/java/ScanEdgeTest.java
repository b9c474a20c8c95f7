/** The boundary cases of "Scanning" and "Verdicts" and of promises 18 and 19: count, meanRounds. */
public final class ScanEdgeTest {
    private static final int LEAST = Integer.MIN_VALUE;
    private static final int GREATEST = Integer.MAX_VALUE;

    public static void main(String[] args) {
        rounds();
        planOfThePresentTick();
        planOfTheLastFirstTick();
        noPlan();
        unreadable();
        bound();
        ruleEnds();
        wornAtTheEnds();
        chutesOfTheRule();
        noChuteOfTheRule();
        noExceptionChute();
        exceptionChuteInTheRule();
        firstReason();
        verdicts();
        planOfTheDrop();
        ruleOfTheTrueDestination();
        countRefuses();
        counts();
        sumsOfAllChutes();
        greatestRounds();
        meanRounds();
        Check.end();
    }

    private static void scanned(String what, ParcelSorter x, int parcel, int reason, int target) {
        Check.same(what + ": reason", reason, x.parcel(parcel, 8));
        Check.same(what + ": target", target, x.parcel(parcel, 7));
    }

    // ---- scanning

    private static void rounds() {
        Check.holds("Scanning", "The number of scans of the parcel increases by 1; its rounds are this number minus 1, and "
            + "0 before its first scan.");
        ParcelSorter x = Scene.line();
        Scene.arrive(x, 1, 2);
        x.run(1);
        int[] scans = {0, 1, 1, 2, 2};
        int[] rounds = {0, 0, 0, 1, 2};
        int[] ticks = {1, 1, 11, 1, 1};
        for (int i = 0; i < scans.length; i++) {
            Check.same("scans of parcel 0, " + i, scans[i], x.parcel(0, 6));
            Check.same("the rounds of both, " + i, rounds[i], x.count(13));
            Check.same("the greatest number, " + i, Math.min(1, rounds[i]), x.count(16));
            x.run(ticks[i]);
        }
    }

    private static void planOfThePresentTick() {
        Check.holds("Scanning", "Its target and the reason for it are found as follows, by the plan of the present tick:");
        for (int first = 1; first <= 3; first++) {
            ParcelSorter x = Scene.line(3, 5);
            Check.addPlan(x, "@" + first + ":1=1x1");
            Scene.arrive(x, 1);
            x.run(2);
            scanned("first tick " + first + ", scanned at 2", x, 0, first <= 2 ? 0 : 5, first <= 2 ? 1 : -1);
            ParcelSorter y = Scene.line(3, 5);
            Check.addPlan(y, "@0:1=0x0");
            Check.addPlan(y, "@" + first + ":1=1x1");
            Scene.arrive(y, 1);
            y.run(2);
            scanned("first tick " + first + " after 0", y, 0, 0, first <= 2 ? 1 : 0);
        }
    }

    /** 9999 is the last first tick that there can be; the time goes on. */
    private static void planOfTheLastFirstTick() {
        Check.holds("Scanning", "by the plan of the present tick");
        int[] arrivals = {9996, 9997, 9998, 10050};
        int[] targets = {0, 1, 1, 1};
        for (int i = 0; i < arrivals.length; i++) {
            ParcelSorter x = Scene.line(3, 5);
            Check.addPlan(x, "@0:1=0x0");
            Check.addPlan(x, "@9999:1=1x1");
            for (int hundreds = arrivals[i] / 100; hundreds > 0; hundreds--) {
                x.run(100);
            }
            x.run(arrivals[i] % 100);
            Scene.arrive(x, 1);
            x.run(2);
            scanned("scanned at " + (arrivals[i] + 2), x, 0, 0, targets[i]);
        }
    }

    private static void noPlan() {
        Check.holds("Scanning", "reason 5: there is no plan; no target");
        ParcelSorter x = Scene.line(3);
        Check.addPlan(x, "@9999:0-99=0x0");
        for (int condition = 0; condition <= 2; condition++) {
            x.arrive(0, 1, 1, condition);
        }
        x.run(4);
        for (int parcel = 0; parcel <= 2; parcel++) {
            scanned("in condition " + parcel, x, parcel, 5, -1);
        }
        ParcelSorter y = Scene.line(3);
        Scene.arrive(y, 1);
        y.run(2);
        scanned("without a plan at all", y, 0, 5, -1);
        Check.addPlan(y, "@15:0-99=0x0");
        y.run(12);
        scanned("one tick too early", y, 0, 5, -1);
    }

    private static void unreadable() {
        Check.holds("Scanning", "reason 2: the parcel is unreadable; the exception chute");
        ParcelSorter x = Scene.line(3, 5);
        Check.addPlan(x, "@0:1=0x1*0");
        x.setClosed(1, true);
        x.arrive(0, 1, 1, 2);
        x.run(2);
        scanned("though there is a rule", x, 0, 12, -1);
        x.setClosed(1, false);
        x.run(12);
        scanned("though its rounds are more than the bound", x, 0, 2, 1);
    }

    private static void bound() {
        Check.holds("Scanning", "reason 3: its rounds are more than the bound; the exception chute");
        for (int bound = 0; bound <= 9; bound++) {
            ParcelSorter x = Scene.line(3, 5);
            Check.addPlan(x, bound == 3 ? "@0:1=0x1" : "@0:1=0x1*" + bound);
            x.setClosed(0, true);
            Scene.arrive(x, 1);
            for (int rounds = 0; rounds <= bound + 1; rounds++) {
                x.run(rounds == 0 ? 2 : 12);
                boolean isMore = rounds > bound;
                scanned(rounds + " rounds, bound " + bound, x, 0, isMore ? 3 : 6, isMore ? 1 : -1);
            }
        }
        ParcelSorter y = Scene.line(3, 5);
        Check.addPlan(y, "@0:1=0x1*0");
        Scene.arrive(y, 1);
        y.run(2);
        scanned("no rounds are not more than 0", y, 0, 0, 0);
    }

    private static void ruleEnds() {
        Check.holds("Scanning", "reason 4: there is no rule for the destination that is read; the exception chute");
        int[][] ranges = {{0, 0}, {0, 1}, {10, 20}, {99, 99}, {98, 99}, {0, 99}, {50, 50}};
        for (int[] range : ranges) {
            for (int destination : new int[] {range[0] - 1, range[0], range[1], range[1] + 1}) {
                if (destination < 0 || destination > 99) {
                    continue;
                }
                ParcelSorter x = Scene.line(3, 5);
                Check.addPlan(x, "@0:" + range[0] + "-" + range[1] + "=0x1");
                Scene.arrive(x, destination);
                x.run(2);
                boolean isIn = destination >= range[0] && destination <= range[1];
                scanned(destination + " of " + range[0] + "-" + range[1], x, 0, isIn ? 0 : 4, isIn ? 0 : 1);
            }
        }
    }

    private static void wornAtTheEnds() {
        Check.holds("Scanning", "there is no rule for the destination that is read");
        int[] destinations = {0, 99, 1, 10, 9, 90, 98, 89, 55};
        int[] read = {0, 99, 10, 1, 90, 9, 89, 98, 55};
        for (int i = 0; i < destinations.length; i++) {
            for (int by = -1; by <= 1; by++) {
                int ruled = read[i] + by;
                if (ruled < 0 || ruled > 99) {
                    continue;
                }
                ParcelSorter x = Scene.line(3, 5);
                Check.addPlan(x, "@0:" + ruled + "=0x1");
                x.arrive(0, destinations[i], 1, 1);
                x.run(2);
                scanned(destinations[i] + " with a rule for " + ruled, x, 0, by == 0 ? 0 : 4, by == 0 ? 0 : 1);
            }
        }
    }

    private static void chutesOfTheRule() {
        Check.holds("Scanning", "reason 0: otherwise, the first chute of the rule that is usable and not spoilt for the "
            + "parcel, if it is the first one of the rule");
        Check.holds("Scanning", "reason 1: the same, if it is not the first one of the rule");
        int[] chutes = {4, 2, 7};
        for (int closed = 0; closed < 8; closed++) {
            ParcelSorter x = Scene.line(1, 2, 3, 4, 5, 6, 7, 8);
            Check.addPlan(x, "@0:1=4,2,7x0");
            int first = 3;
            for (int i = 2; i >= 0; i--) {
                boolean isClosed = (closed >> i & 1) == 1;
                x.setClosed(chutes[i], isClosed);
                first = isClosed ? first : i;
            }
            Scene.arrive(x, 1);
            x.run(2);
            scanned("closed: " + closed, x, 0, first == 3 ? 6 : Math.min(1, first), first == 3 ? -1 : chutes[first]);
        }
        ParcelSorter y = Scene.line(1);
        y.addChute(2, 20, 0, 10, 1, 0);
        Check.addPlan(y, "@0:1=1,0x0*9");
        y.arrive(0, 1, 11, 0);
        y.run(2);
        scanned("not spoilt yet", y, 0, 0, 1);
        y.run(12);
        Check.same("usable again", 1, y.chute(1, 5));
        scanned("spoilt", y, 0, 1, 0);
    }

    private static void noChuteOfTheRule() {
        Check.holds("Scanning", "reason 6: there is no such chute; no target");
        ParcelSorter x = Scene.line(1);
        x.addChute(2, 20, 0, 10, 1, 0);
        Check.addPlan(x, "@0:1=1x0*9");
        x.arrive(0, 1, 11, 0);
        x.run(14);
        Check.same("usable again", 1, x.chute(1, 5));
        scanned("the only one is spoilt", x, 0, 6, -1);
        ParcelSorter y = Scene.lineTo(1, 0, 50, 9, 9);
        Scene.arrive(y, 1);
        y.run(3);
        Scene.arrive(y, 2);
        y.run(2);
        scanned("dropped at 5, scanned at 5", y, 1, 0, 0);
        Scene.arrive(y, 3);
        y.run(2);
        scanned("the only one is swapped", y, 2, 6, -1);
    }

    private static void noExceptionChute() {
        Check.holds("Scanning", "If the target is the exception chute and this is not usable, or spoilt for the parcel, "
            + "there is no target, and the reason increases by 10.");
        for (String way : new String[] {"open", "closed", "jammed", "swapped", "spoilt"}) {
            for (int reason = 2; reason <= 4; reason++) {
                secondScan(way, reason);
            }
        }
    }

    /** The parcel comes back to the scanner at tick 14, after its first round; another one was at the chute at 12. */
    private static void secondScan(String way, int reason) {
        boolean isSpoilt = way.equals("spoilt");
        boolean isJammed = way.equals("jammed");
        boolean isSwapped = way.equals("swapped");
        ParcelSorter x = Scene.line();
        x.addChute(6, isSwapped ? 1 : 20, 0, 49, 9, 9);
        Check.addPlan(x, "@0:1=0x0*" + (reason == 3 ? 0 : 9));
        x.setClosed(0, !isSpoilt);
        x.arrive(0, reason == 4 ? 2 : 1, isSpoilt ? 50 : 1, reason == 2 ? 2 : 0);
        x.run(4);
        x.setClosed(0, way.equals("closed"));
        if (isJammed || isSwapped) {
            x.arrive(0, 1, isJammed ? 50 : 1, 0);
        }
        x.run(5);
        if (isSpoilt) {
            x.clear(0);
        }
        x.run(5);
        boolean isOpen = way.equals("open");
        Check.same(way + ": usable", isOpen || isSpoilt ? 1 : 0, x.chute(0, 5));
        Check.same(way + ": spoilt", isSpoilt ? 1 : 0, x.parcel(0, 11));
        scanned(way, x, 0, isOpen ? reason : reason + 10, isOpen ? 0 : -1);
    }

    private static void exceptionChuteInTheRule() {
        Check.holds("Scanning", "If the target is the exception chute");
        ParcelSorter x = Scene.line(3, 5);
        Check.addPlan(x, "@0:1=0x0");
        x.setClosed(0, true);
        Scene.arrive(x, 1);
        x.run(2);
        scanned("the rule has no other chute", x, 0, 6, -1);
        ParcelSorter y = Scene.line(3, 5);
        Check.addPlan(y, "@0:1=0,1x0");
        y.setClosed(0, true);
        Scene.arrive(y, 1);
        y.run(2);
        scanned("the rule has another chute", y, 0, 1, 1);
        ParcelSorter z = Scene.line(3, 5);
        Check.addPlan(z, "@0:1=0,1x0");
        Scene.arrive(z, 1);
        z.run(2);
        scanned("by the rule, not as an exception", z, 0, 0, 0);
    }

    private static void firstReason() {
        Check.holds("Scanning", "Its target and the reason for it are found as follows");
        ParcelSorter x = Scene.line(3, 5);
        Check.addPlan(x, "@10:1=0x1*0");
        x.arrive(0, 2, 1, 2);
        x.arrive(0, 2, 1, 0);
        x.run(3);
        scanned("5 goes before 2", x, 0, 5, -1);
        scanned("5 goes before 4", x, 1, 5, -1);
        x.run(12);
        scanned("2 goes before 3 and 4", x, 0, 2, 1);
        scanned("3 goes before 4", x, 1, 3, 1);
    }

    // ---- verdicts

    private static int verdictOf(String plan, int destination, int condition) {
        ParcelSorter x = Scene.line(3, 5, 7);
        Check.addPlan(x, plan);
        x.arrive(0, destination, 1, condition);
        x.run(20);
        return x.parcel(0, 10);
    }

    private static void verdicts() {
        Check.holds("Verdicts", "When a parcel is dropped, it gets a verdict by the plan of this tick: 1 if the chute is "
            + "the exception chute of this plan; otherwise 0 if the rule of its true destination has this chute; "
            + "otherwise 2 if it is worn, and 3 if it is not.");
        Check.same("the exception chute, without a rule", 1, verdictOf("@0:1=0x2", 9, 0));
        Check.same("the exception chute, with a rule", 1, verdictOf("@0:1=2x2", 1, 0));
        Check.same("the exception chute, worn", 1, verdictOf("@0:10=2x2", 1, 1));
        Check.same("the exception chute, unreadable", 1, verdictOf("@0:1=0x2", 1, 2));
        Check.same("the first chute of the rule", 0, verdictOf("@0:1=0,1x2", 1, 0));
        Check.same("worn, a rule of its own", 2, verdictOf("@0:10=0;1=1x2", 1, 1));
        Check.same("worn, without a rule of its own", 2, verdictOf("@0:10=0x2", 1, 1));
        Check.same("worn, the same rule", 0, verdictOf("@0:1-10=0x2", 1, 1));
        Check.same("worn, another rule with this chute", 0, verdictOf("@0:10=0;1=1,2,0x2", 1, 1));
        Check.same("worn, the first rule of it counts", 2, verdictOf("@0:10=0;1=1;0-99=0x2", 1, 1));
        Check.same("worn, but the digits are the same", 0, verdictOf("@0:11=0x2", 11, 1));
        for (int closed = 1; closed <= 2; closed++) {
            ParcelSorter x = Scene.line(3, 5, 7, 9);
            Check.addPlan(x, "@0:1=0,1,2x3");
            for (int chute = 0; chute < closed; chute++) {
                x.setClosed(chute, true);
            }
            Scene.arrive(x, 1);
            x.run(20);
            Check.same("the last chutes of the rule", 0, x.parcel(0, 10));
            Check.same("the chute", closed, x.parcel(0, 5));
        }
    }

    /** Scanned at 2 by the first plan and dropped into chute 0 at 5, when another plan is that of the tick, or not. */
    private static void planOfTheDrop() {
        Check.holds("Verdicts", "by the plan of this tick");
        String[] plans = {":1=0x1", ":1=1x0", ":1=1x1", ":2=0x1"};
        int[] due = {0, 1, 3, 3};
        for (int i = 0; i < plans.length; i++) {
            for (int first = 4; first <= 6; first++) {
                for (int condition = 0; condition <= 1; condition++) {
                    ParcelSorter x = Scene.line(3, 5);
                    Check.addPlan(x, "@0:1=0;10=0x1");
                    Check.addPlan(x, "@" + first + plans[i]);
                    x.arrive(0, 1, 1, condition);
                    Check.same("dropped", 1, x.run(5));
                    int verdict = due[i] == 3 && condition == 1 ? 2 : due[i];
                    Check.same(plans[i] + " from " + first + " on", first <= 5 ? verdict : 0, x.parcel(0, 10));
                }
            }
        }
        ParcelSorter y = Scene.line(3, 5);
        Check.addPlan(y, "@0:1=0x1");
        Scene.arrive(y, 1);
        y.run(4);
        Check.addPlan(y, "@0:2=0x1");
        y.run(1);
        Check.same("a plan in place of it", 3, y.parcel(0, 10));
        Check.addPlan(y, "@0:1=0x1");
        Check.same("stays what it was", 3, y.parcel(0, 10));
    }

    private static void ruleOfTheTrueDestination() {
        Check.holds("Verdicts", "otherwise 2 if it is worn, and 3 if it is not");
        ParcelSorter x = Scene.line(3, 5);
        Check.addPlan(x, "@0:0-99=0x1");
        Check.addPlan(x, "@5:1-98=0x1");
        Check.addPlan(x, "@6:0=0;99=0x1");
        x.arrive(0, 0, 1, 0);
        x.arrive(0, 99, 1, 0);
        x.arrive(0, 50, 1, 0);
        x.arrive(0, 23, 1, 1);
        Check.same("all of them", 4, x.run(8));
        int[] due = {3, 0, 3, 2};
        for (int i = 0; i < 4; i++) {
            Check.same("verdict of " + i, due[i], x.parcel(i, 10));
            Check.same("in the ledger", due[i], x.ledger(i, 3));
        }
    }

    // ---- promise 18

    private static void countRefuses() {
        Check.holds("18", "Throws `IllegalArgumentException` if what is not valid");
        for (int what : new int[] {-1, 17, 18, LEAST, GREATEST}) {
            Twin.refused("count " + what, Check.RANGE, Scene.BUSY, x -> x.count(what));
            Twin.refused("count " + what, Check.RANGE, Scene.NEW, x -> x.count(what));
        }
        Check.holds("18", "Returns a count.");
        for (int what = 0; what <= 16; what++) {
            int w = what;
            Twin.unchanged("count " + what, Scene.BUSY, x -> x.count(w));
        }
    }

    private static void counts() {
        Check.holds("18", "0 the time; 1 the places; 2 the stations; 3 the chutes; 4 the plans; 5 the parcels; 6 those that "
            + "wait; 7 those on the loop; 8 those that were dropped");
        Check.holds("18", "Returns the count.");
        int[] full = {10, 30, 3, 8, 5, 60, 30, 30, 0, 0, 0, 0, 0, 0, 0, 0, 0};
        int[] dropped = {200, 12, 3, 1, 1, 60, 0, 0, 60, 0, 60, 0, 0, 0, 0, 3, 0};
        for (int what = 0; what <= 16; what++) {
            Check.same("full: " + what, full[what], Scene.FULL.get().count(what));
            Check.same("all dropped: " + what, dropped[what], Scene.ALL_DROPPED.get().count(what));
        }
        Check.holds("18", "9 to 12 those with the verdicts 0 to 3; 13 the rounds of all parcels together; 14 the jams of all "
            + "chutes; 15 the finished bags of all chutes");
        ParcelSorter x = Scene.line(1);
        x.addChute(2, 1, 0, 10, 1, 0);
        x.addChute(3, 1, 5, 10, 1, 0);
        Check.addPlan(x, "@0:1=1;10=2;20=1;30=2x0*9");
        Check.addPlan(x, "@9:40=1x0");
        Scene.arrive(x, 1, 99, 30, 30);
        x.arrive(0, 2, 1, 1);
        x.arrive(0, 20, 11, 0);
        Scene.arrive(x, 20);
        x.run(18);
        int[] due = {18, 12, 1, 3, 2, 7, 0, 1, 6, 2, 2, 1, 1, 1, 2, 4, 1};
        for (int what = 0; what <= 16; what++) {
            Check.same("a bit of all: " + what, due[what], x.count(what));
        }
    }

    private static void sumsOfAllChutes() {
        Check.holds("18", "14 the jams of all chutes; 15 the finished bags of all chutes");
        for (int chute = 0; chute < 8; chute++) {
            ParcelSorter x = new ParcelSorter();
            x.addStation(11);
            for (int place = 1; place <= 8; place++) {
                x.addChute(place, 1, 0, 49, 1, 0);
            }
            Check.addPlan(x, "@0:0-99=" + chute + "x0");
            x.arrive(0, 1, 50, 0);
            x.run(chute + 3);
            Check.same("a jam of chute " + chute, 1, x.count(14));
            Check.same("no bag", 0, x.count(15));
            Scene.arrive(x, 1);
            x.run(chute + 3);
            Check.same("a bag of chute " + chute, 1, x.count(15));
            Check.same("no other jam", 1, x.count(14));
        }
    }

    private static void greatestRounds() {
        Check.holds("18", "16 the greatest number of rounds of a parcel, 0 without parcels");
        Check.same("without parcels", 0, new ParcelSorter().count(16));
        ParcelSorter x = Scene.lineTo(20, 0, 50, 9, 0);
        x.setClosed(0, true);
        Scene.arrive(x, 1);
        Check.same("not scanned yet", 0, x.count(16));
        x.run(2);
        Check.same("scanned once", 0, x.count(16));
        x.run(11);
        Scene.arrive(x, 2);
        Check.same("just before the second scan", 0, x.count(16));
        x.run(1);
        Check.same("a round", 1, x.count(16));
        x.setClosed(0, false);
        x.run(12);
        Check.same("two rounds", 2, x.count(16));
        x.run(12);
        Check.same("a dropped one counts", 2, x.count(16));
        Check.same("the rounds of both", 2, x.count(13));
    }

    // ---- promise 19

    private static void meanRounds() {
        Check.holds("19", "Throws `ArithmeticException` if none was dropped");
        Twin.refused("no parcel", Check.ARITHMETIC, Scene.NEW, x -> x.meanRounds());
        Twin.refused("60 that were not dropped", Check.ARITHMETIC, Scene.FULL, x -> x.meanRounds());
        Check.holds("19", "Returns the quotient.");
        Check.same("no rounds", 0.0, Scene.ALL_DROPPED.get().meanRounds());
        Check.holds("19", "Returns the mean number of rounds of the dropped parcels: their sum as a double divided by their "
            + "number as a double.");
        ParcelSorter x = Scene.lineTo(20, 0, 50, 9, 0);
        x.setClosed(0, true);
        Scene.arrive(x, 1);
        x.run(14);
        x.setClosed(0, false);
        x.run(14);
        Check.same("two rounds", 2, x.count(13));
        Check.refuses("but not dropped yet", Check.ARITHMETIC, () -> x.meanRounds());
        x.run(1);
        for (int dropped = 1; dropped <= 7; dropped++) {
            if (dropped > 1) {
                Scene.arrive(x, 1);
                x.run(5);
            }
            Check.same("dropped", dropped, x.count(8));
            Check.same("mean of " + dropped, 2.0 / dropped, x.meanRounds());
        }
        x.setClosed(0, true);
        Scene.arrive(x, 1);
        x.run(38);
        Check.same("those on the loop have rounds too", 5, x.count(13));
        Check.same("but do not count", 2.0 / 7, x.meanRounds());
        Twin.unchanged("meanRounds", Scene.BUSY, y -> y.meanRounds());
    }
}
