/** The boundary cases of "Plans" once they are read, and of promises 7, 8, 27 and 28: plan, route, write, paper. */
public final class PlanEdgeTest {
    private static final int LEAST = Integer.MIN_VALUE;
    private static final int GREATEST = Integer.MAX_VALUE;
    private static final String EIGHT_RULES = "@4:0=0;1=1;2=2;3=3;4=4;5=5;6=6;99=7,6,5x7*0";

    public static void main(String[] args) {
        planNumbers();
        planParts();
        withoutRule();
        parts();
        planOfATick();
        ruleOfADestination();
        routeNumbers();
        routeRefuses();
        firstOfSeveral();
        write();
        writePlaces();
        paper();
        Check.end();
    }

    /** Its plans are from tick 10 and from tick 20 on; rules of one, two and three chutes, gaps in the ranges. */
    private static ParcelSorter twoPlans() {
        ParcelSorter x = Scene.withChutes(8);
        Check.addPlan(x, "@20:0=7;5-9=1,2;95-99=3,0,4x5*9");
        Check.addPlan(x, "@10:50-60=6;55-70=5x0*0");
        return x;
    }

    // ---- promise 7

    private static void planNumbers() {
        Check.holds("7", "the number of the plan, from 0, in ascending order of the first ticks");
        ParcelSorter x = Scene.withChutes(1);
        int[] ticks = {500, 9999, 0, 1, 9998};
        for (int tick : ticks) {
            Check.addPlan(x, "@" + tick + ":1=0x0");
        }
        int[] ascending = {0, 1, 500, 9998, 9999};
        for (int i = 0; i < 5; i++) {
            Check.same("plan " + i, ascending[i], x.plan(i, 0));
        }
        Check.refuses("plan 5", Check.INDEX, () -> x.plan(5, 0));
        Check.holds("7", "Throws `IndexOutOfBoundsException` if there is no such plan");
        for (int plan : new int[] {-1, 2, 3, LEAST, GREATEST}) {
            Twin.refused("plan " + plan, Check.INDEX, Scene.BUSY, y -> y.plan(plan, 0));
        }
        Twin.refused("plan 5", Check.INDEX, Scene.FULL, y -> y.plan(5, 0));
        Twin.refused("plan -1", Check.INDEX, Scene.FULL, y -> y.plan(-1, 4));
        Check.same("the last of five", 9999, Scene.FULL.get().plan(4, 0));
    }

    private static void planParts() {
        Check.holds("7", "Throws `IllegalArgumentException` if what is not valid");
        for (int what : new int[] {-1, 5, 6, LEAST, GREATEST}) {
            Twin.refused("what " + what, Check.RANGE, Scene.BUSY, x -> x.plan(0, what));
            Twin.refused("what " + what, Check.RANGE, Scene.FULL, x -> x.plan(4, what));
        }
        Check.holds("7", "Returns the part.");
        int[] due = {20, 3, 5, 9, 89};
        for (int what = 0; what <= 4; what++) {
            Check.same("what " + what, due[what], twoPlans().plan(1, what));
        }
        Twin.unchanged("plan", Scene.BUSY, x -> x.plan(0, 4));
    }

    private static void withoutRule() {
        Check.holds("7", "4 the number of destinations without a rule");
        String[] rules = {"0-99=0", "1-99=0", "0-98=0", "0=0", "99=0", "0-49=0;50-99=1", "0-50=0;50-99=1",
            "0-48=0;50-99=1", "0-99=0;0-99=1", "10-20=0;15=1;0-9=2"};
        int[] due = {0, 1, 1, 99, 99, 0, 0, 1, 0, 79};
        for (int i = 0; i < rules.length; i++) {
            ParcelSorter x = Scene.withChutes(3);
            Check.addPlan(x, "@0:" + rules[i] + "x0");
            Check.same(rules[i], due[i], x.plan(0, 4));
        }
        Check.holds("7", "Returns a part of a plan.");
        ParcelSorter y = Scene.withChutes(8);
        Check.addPlan(y, EIGHT_RULES);
        Check.same("all eight rules count", 92, y.plan(0, 4));
    }

    private static void parts() {
        Check.holds("Plans", "A plan has 1 to 8 rules, each with a range of destinations and 1 to 3 different chutes, "
            + "an exception chute, and a bound from 0 to 9.");
        ParcelSorter x = Scene.withChutes(8);
        Check.addPlan(x, EIGHT_RULES);
        Check.addPlan(x, "@5:0-99=0x0*9");
        Check.same("eight rules", 8, x.plan(0, 1));
        Check.same("one rule", 1, x.plan(1, 1));
        Check.same("the first rule", 0, x.route(4, 0, 0));
        Check.same("the seventh rule", 6, x.route(4, 6, 0));
        Check.same("the eighth rule", 3, x.route(4, 99, -1));
        Check.same("its first chute", 7, x.route(4, 99, 0));
        Check.same("its third chute", 5, x.route(4, 99, 2));
        Check.same("the last exception chute", 7, x.plan(0, 2));
        Check.same("the first exception chute", 0, x.plan(1, 2));
        Check.same("the least bound", 0, x.plan(0, 3));
        Check.same("the greatest bound", 9, x.plan(1, 3));
    }

    // ---- promise 8

    private static void planOfATick() {
        Check.holds("Plans", "The plan of a tick is the one with the greatest first tick that is not after it.");
        ParcelSorter x = Scene.withChutes(8);
        int[] ticks = {1000, 3, 9999, 4, 500};
        for (int i = 0; i < 5; i++) {
            Check.addPlan(x, "@" + ticks[i] + ":0=" + i + "x0");
        }
        int[] asked = {3, 4, 5, 499, 500, 999, 1000, 9998, 9999, 10000, GREATEST};
        int[] due = {1, 3, 3, 3, 4, 4, 0, 0, 2, 2, 2};
        for (int i = 0; i < asked.length; i++) {
            Check.same("tick " + asked[i], due[i], x.route(asked[i], 0, 0));
        }
        Check.refuses("tick 2", Check.STATE, () -> x.route(2, 0, 0));
        Check.refuses("tick 0", Check.STATE, () -> x.route(0, 0, 0));
        ParcelSorter y = Scene.withChutes(1);
        Check.addPlan(y, "@0:0=0x0");
        Check.same("a plan of tick 0", 0, y.route(0, 0, 0));
    }

    private static void ruleOfADestination() {
        Check.holds("Plans", "The rule of a destination is the first one whose range contains it.");
        ParcelSorter x = twoPlans();
        int[] destinations = {50, 54, 55, 60, 61, 70};
        int[] due = {6, 6, 6, 6, 5, 5};
        for (int i = 0; i < destinations.length; i++) {
            Check.same("destination " + destinations[i], due[i], x.route(10, destinations[i], 0));
        }
        for (int destination : new int[] {0, 49, 71, 99}) {
            Check.refuses("destination " + destination, Check.NONE, () -> x.route(10, destination, 0));
        }
        ParcelSorter y = Scene.withChutes(8);
        Check.addPlan(y, "@0:99=1;0=2;0-99=3x0");
        Check.same("the first destination", 2, y.route(0, 0, 0));
        Check.same("the one behind it", 3, y.route(0, 1, 0));
        Check.same("the one before the last", 3, y.route(0, 98, 0));
        Check.same("the last destination", 1, y.route(0, 99, 0));
    }

    private static void routeNumbers() {
        Check.holds("8", "the number of the chute in the rule, from 0, or -1 for the number of its chutes");
        Check.holds("8", "Returns the chute or the number.");
        ParcelSorter x = twoPlans();
        int[][] rules = {{0, 7}, {5, 1, 2}, {99, 3, 0, 4}};
        for (int[] rule : rules) {
            int chutes = rule.length - 1;
            Check.same("their number", chutes, x.route(20, rule[0], -1));
            for (int i = 0; i < chutes; i++) {
                Check.same("chute " + i, rule[i + 1], x.route(20, rule[0], i));
            }
            for (int i : new int[] {chutes, chutes + 1, -2, 3, LEAST, GREATEST}) {
                Twin.refused(i + " of " + chutes, Check.NONE, PlanEdgeTest::twoPlans, y -> y.route(20, rule[0], i));
            }
        }
        Check.holds("8", "Returns a chute of the rule of a destination in the plan of a tick.");
        Twin.unchanged("route", Scene.BUSY, y -> y.route(0, 0, 0));
    }

    private static void routeRefuses() {
        Check.holds("8", "Throws `IllegalArgumentException` if tick is negative, or destination is out of range");
        for (int bad : new int[] {-1, LEAST}) {
            Twin.refused("tick " + bad, Check.RANGE, Scene.BUSY, x -> x.route(bad, 0, 0));
        }
        for (int bad : new int[] {-1, 100, LEAST, GREATEST}) {
            Twin.refused("destination " + bad, Check.RANGE, Scene.BUSY, x -> x.route(0, bad, 0));
        }
        Check.holds("8", "the tick, 0 or later");
        Check.same("tick 0", 0, Scene.BUSY.get().route(0, 0, 0));
        Check.same("the last tick", 2, Scene.BUSY.get().route(GREATEST, 0, 0));
        Check.same("the last destination", 1, Scene.BUSY.get().route(GREATEST, 99, 1));
        Check.holds("8", "Throws `IllegalStateException` if there is no plan of this tick");
        Twin.refused("one before the first plan", Check.STATE, PlanEdgeTest::twoPlans, x -> x.route(9, 50, 0));
        Check.same("the first plan", 6, twoPlans().route(10, 50, 0));
        Twin.refused("no plan at all", Check.STATE, Scene.NEW, x -> x.route(GREATEST, 50, 0));
        Check.holds("8", "Throws `NoSuchElementException` if there is no rule, or no such chute in it");
        for (int destination : new int[] {1, 4, 10, 94}) {
            Twin.refused("destination " + destination, Check.NONE, PlanEdgeTest::twoPlans,
                x -> x.route(20, destination, 0));
            Twin.refused("their number", Check.NONE, PlanEdgeTest::twoPlans, x -> x.route(20, destination, -1));
        }
    }

    private static void firstOfSeveral() {
        Check.holds("Exceptions", "If several exceptions apply, the one that is documented first is thrown.");
        Twin.refused("plan 2, what 5", Check.INDEX, Scene.BUSY, x -> x.plan(2, 5));
        Twin.refused("plan -1, what -1", Check.INDEX, Scene.NEW, x -> x.plan(-1, -1));
        Twin.refused("no plan of tick -1", Check.RANGE, Scene.NEW, x -> x.route(-1, 0, 0));
        Twin.refused("no plan, destination 100", Check.RANGE, PlanEdgeTest::twoPlans, x -> x.route(9, 100, 0));
        Twin.refused("no plan, destination -1", Check.RANGE, PlanEdgeTest::twoPlans, x -> x.route(9, -1, 9));
        Twin.refused("no chute 9, destination 100", Check.RANGE, PlanEdgeTest::twoPlans, x -> x.route(20, 100, 9));
        Twin.refused("no plan, no chute 9", Check.STATE, PlanEdgeTest::twoPlans, x -> x.route(9, 0, 9));
    }

    // ---- promises 27 and 28

    private static void write() {
        Check.holds("27", "ranges of one destination with one number, the bound only if it is not 3, numbers without "
            + "needless zeros");
        String[][] texts = {
            {"@0:0=0x0", "@0:0=0x0"}, {"@0000:0000-0000=0x0*3", "@0:0=0x0"}, {"@9:9-9=0x0*2", "@9:9=0x0*2"},
            {"@0010:0-1=0x0*4", "@10:0-1=0x0*4"}, {"@9999:98-99=0x0*0", "@9999:98-99=0x0*0"},
            {"@1000:099-0099=7x7*9", "@1000:99=7x7*9"}, {"@100:00-99=0,1,2x3", "@100:0-99=0,1,2x3"},
            {"@1:10-20=3,2,1;07=4x5", "@1:10-20=3,2,1;7=4x5"}, {EIGHT_RULES, EIGHT_RULES},
            {Scene.LONGEST, "@0:0-99=0,1,2;0-99=0,1,2;0-99=0,1,2;0-99=0,1,2;1-99=0x0*1"}};
        for (String[] text : texts) {
            ParcelSorter x = Scene.withChutes(8);
            Check.addPlan(x, text[0]);
            Check.same("length of " + text[0], text[1].length(), x.write(0));
            Check.same("text of " + text[0], text[1], Check.paper(x, text[1].length()));
        }
        Check.holds("27", "Returns the length of the text.");
        String longest = "@9999:10-99=0,1,2;10-99=0,1,2;10-99=0,1,2;10-99=0,1,2;10-99=0,1,2;9-99=0,1,2x0*2";
        ParcelSorter y = Scene.withChutes(8);
        Check.addPlan(y, longest);
        Check.same("80 signs", 80, y.write(0));
        Check.same("all of them", longest, Check.paper(y, 80));
        Check.refuses("no more of them", Check.INDEX, () -> y.paper(80));
    }

    private static void writePlaces() {
        Check.holds("27", "Throws `IndexOutOfBoundsException` if there is no such plan");
        for (int plan : new int[] {-1, 2, LEAST, GREATEST}) {
            Twin.refused("write " + plan, Check.INDEX, Scene.BUSY, x -> x.write(plan));
        }
        Twin.refused("write 5", Check.INDEX, Scene.FULL, x -> x.write(5));
        Check.same("the last of five", 11, Scene.FULL.get().write(4));
        Check.holds("27", "Writes a plan as a text onto the paper, in place of what was there");
        ParcelSorter y = Scene.withChutes(8);
        Check.addPlan(y, "@5:0=0x0");
        Check.addPlan(y, "@6:0-10=0,1,2x0*0");
        Check.same("the long one", "@6:0-10=0,1,2x0*0", Check.written(y, 1));
        Check.same("the short one", 8, y.write(0));
        Check.same("the short one", "@5:0=0x0", Check.paper(y, 8));
        Check.refuses("nothing behind it", Check.INDEX, () -> y.paper(8));
        Check.same("the long one again", "@6:0-10=0,1,2x0*0", Check.written(y, 1));
        Twin.unchanged("write of the same plan", Scene.BUSY, x -> x.write(1));
    }

    private static void paper() {
        Check.holds("28", "Returns a character of the paper, which is empty at first.");
        Twin.refused("empty", Check.INDEX, Scene.FULL, x -> x.paper(0));
        ParcelSorter x = Scene.BUSY.get();
        Check.holds("28", "the position, from 0");
        Check.same("the first", '@', x.paper(0));
        Check.same("the last", '1', x.paper(21));
        Check.holds("28", "Throws `IndexOutOfBoundsException` if there is no such position");
        for (int i : new int[] {-1, 22, 23, 80, LEAST, GREATEST}) {
            Twin.refused("paper " + i, Check.INDEX, Scene.BUSY, y -> y.paper(i));
        }
        Check.holds("28", "Returns the character.");
        Twin.unchanged("paper", Scene.BUSY, y -> y.paper(21));
    }
}
