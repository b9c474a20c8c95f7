import java.util.function.Supplier;

/** The boundary cases of the grammar of plans and of promises 5 and 6: feed, addPlan. */
public final class TextEdgeTest {
    private static final String DIGITS = "0123456789";
    private static final String CHUTES = "01234567";
    private static final char[] FAR_SIGNS = {'\u0130', '\u0140', '\u0660', '\uff10', '\uff20', '\ud83d', '\uffff'};
    private static final String SEVEN_RULES = "@1:1=0;2=1;3=2;4=3;5=4;6=5;7=6";

    public static void main(String[] args) {
        feed();
        fullInput();
        signsOfAPlan();
        signsOfARule();
        signsOfANumber();
        chutesOfARule();
        eightRules();
        signsBehindTheRules();
        tooEarly();
        wholeInput();
        numberOfPlans();
        emptyAfterwards();
        meaning();
        impossibleDestinations();
        impossibleChutes();
        fivePlans();
        sameFirstTick();
        firstOfSeveral();
        Check.end();
    }

    // ---- promise 5

    private static void feed() {
        Check.holds("5", "Appends a character to the input, which is empty at first.");
        ParcelSorter x = new ParcelSorter();
        Check.same("nothing is there", -100, x.addPlan());
        Check.holds("5", "Returns the length of the input.");
        for (int length = 1; length <= 80; length++) {
            Check.same("feed", length, x.feed(length % 2 == 0 ? (char) 0 : '\uffff'));
        }
        Check.refuses("one more", Check.STATE, () -> x.feed('@'));
        Check.same("no plan", -100, x.addPlan());
        Check.same("empty again", 1, x.feed('@'));
        ParcelSorter y = Scene.withOneChute();
        Check.same("one behind the other", 1, Check.addPlan(y, "@21:43=0x0"));
        Check.same("first tick", 21, y.plan(0, 0));
    }

    private static void fullInput() {
        Check.holds("5", "Throws `IllegalStateException` if the input has 80 characters");
        for (char sign : new char[] {'@', '0', (char) 0, '\uffff'}) {
            Twin.refused("feed " + (int) sign, Check.STATE, Scene.FULL, x -> x.feed(sign));
        }
        Twin.refused("feed twice", Check.STATE, Scene.FULL, x -> {
            Check.refuses("feed", Check.STATE, () -> x.feed('1'));
            x.feed('2');
        });
        ParcelSorter y = new ParcelSorter();
        Check.feed(y, Scene.LONGEST.substring(1));
        Check.same("the last one that is taken", 80, y.feed('1'));
        Check.refuses("the first one that is not", Check.STATE, () -> y.feed('1'));
    }

    // ---- the grammar

    private static void signsOfAPlan() {
        Check.holds("Plans", "plan: \"@\" number \":\" rule { \";\" rule } \"x\" chute [ \"*\" digit ]");
        next("", "@");
        next("@", DIGITS);
        next("@1:", DIGITS);
        next("@1:1=0;", DIGITS);
        next("@1:1=0;2=1;", DIGITS);
        next("@1:1=0x", CHUTES);
        next("@1:1=7;2-3=6,5,4x", CHUTES);
        next("@1:1=0x0", "*");
        next("@1:1=0x7", "*");
        next("@1:1=0x0*", DIGITS);
        next("@1:1=0x0*0", "");
        next("@1:1=0x0*9", "");
    }

    private static void signsOfARule() {
        Check.holds("Plans", "rule: number [ \"-\" number ] \"=\" chute { \",\" chute }");
        next("@1:5-", DIGITS);
        next("@1:5-6", DIGITS + "=");
        next("@1:5=", CHUTES);
        next("@1:5-6=", CHUTES);
        next("@1:5=0", ",;x");
        next("@1:5-6=7", ",;x");
        next("@1:5=0;6", DIGITS + "-=");
        next("@1:5=0;6-", DIGITS);
        next("@1:5=0;6-7", DIGITS + "=");
    }

    private static void signsOfANumber() {
        Check.holds("Plans", "number: digit [ digit [ digit [ digit ] ] ]");
        String number = "";
        for (char digit : "9050".toCharArray()) {
            number += digit;
            boolean isFull = number.length() == 4;
            next("@" + number, isFull ? ":" : DIGITS + ":");
            next("@1:" + number, isFull ? "-=" : DIGITS + "-=");
            next("@1:0-" + number, isFull ? "=" : DIGITS + "=");
            next("@1:1=0;" + number, isFull ? "-=" : DIGITS + "-=");
            next("@1:1=0;" + number + "-" + number, isFull ? "=" : DIGITS + "=");
        }
    }

    private static void chutesOfARule() {
        Check.holds("Plans", "a chute that is in the rule already, and a comma before a fourth chute");
        for (char first : CHUTES.toCharArray()) {
            String others = CHUTES.replace("" + first, "");
            next("@1:5=" + first + ",", others);
            for (char second : others.toCharArray()) {
                next("@1:5=" + first + "," + second, ",;x");
                next("@1:5=" + first + "," + second + ",", others.replace("" + second, ""));
            }
        }
        next("@1:5=0,1,2", ";x");
        next("@1:5=7,6,5", ";x");
        next("@1:5=0,1,2;6=", CHUTES);
        next("@1:5=0,1,2;6=2", ",;x");
        next("@1:5=0,1,2;6=2,", "0134567");
        next("@1:5=0,1,2;6=2,1,0", ";x");
        next("@1:5=0,1,2x", CHUTES);
    }

    private static void eightRules() {
        Check.holds("Plans", "or a semicolon before a ninth rule, cannot continue one");
        next(SEVEN_RULES, ",;x");
        next(SEVEN_RULES + ",7,5", ";x");
        next(SEVEN_RULES + ";", DIGITS);
        next(SEVEN_RULES + ";8", DIGITS + "-=");
        next(SEVEN_RULES + ";8=7", ",x");
        next(SEVEN_RULES + ";8=7,", "0123456");
        next(SEVEN_RULES + ";8=7,6,5", "x");
        next(SEVEN_RULES + ";8=7x0", "*");
        Check.same("eight are taken", 1, Check.addPlan(Scene.withChutes(8), SEVEN_RULES + ";8=7x0*9"));
    }

    private static void signsBehindTheRules() {
        Check.holds("Plans", "x tells the exception chute; the digit behind * is the bound, 3 without it");
        for (int bound = 0; bound <= 9; bound++) {
            ParcelSorter x = Scene.withChutes(8);
            Check.same("bound " + bound, 1, Check.addPlan(x, "@1:1=0x7*" + bound));
            Check.same("is the bound", bound, x.plan(0, 3));
        }
        for (int chute = 0; chute <= 7; chute++) {
            ParcelSorter x = Scene.withChutes(8);
            Check.same("chute " + chute, 1, Check.addPlan(x, "@1:1=0x" + chute));
            Check.same("is the exception chute", chute, x.plan(0, 2));
            Check.same("the bound", 3, x.plan(0, 3));
        }
        fault("a tenth bound", "@1:1=0x7*10", 10);
        fault("an eighth chute", "@1:1=0x8", 7);
    }

    /** Each sign there is: with one that can continue the plan, the fault lies behind it. */
    private static void next(String text, String continuing) {
        for (int sign = 0; sign < 300; sign++) {
            tryNext(text, (char) sign, continuing.indexOf(sign) >= 0);
        }
        for (char sign : FAR_SIGNS) {
            tryNext(text, sign, false);
        }
    }

    private static void tryNext(String text, char sign, boolean isContinuing) {
        int fault = isContinuing ? text.length() + 1 : text.length();
        fault("sign " + (int) sign, text + sign + "~", fault);
    }

    private static void fault(String what, String text, int fault) {
        Check.same(what + " in " + text, -100 - fault, Check.addPlan(new ParcelSorter(), text));
    }

    private static void tooEarly() {
        Check.holds("Plans", "The fault position of a text is the offset of the first character that cannot continue a "
            + "plan, or the length of the text if it ends too early");
        String text = "@9999:0000-0099=0,1,2;5=3;6-7=4,5x1*0";
        for (int length = 0; length < text.length(); length++) {
            boolean isPlan = length == text.length() - 2;
            String part = text.substring(0, length);
            int due = isPlan ? 1 : -100 - length;
            Check.same("too early: " + part, due, Check.addPlan(Scene.withChutes(8), part));
        }
        Check.same("not too early", 1, Check.addPlan(Scene.withChutes(8), text));
        fault("the first one counts", "@1:1=0,0,0x9", 7);
        fault("the first one counts", "x", 0);
    }

    private static void wholeInput() {
        Check.holds("6", "-100 minus the fault position if the input is no plan");
        String longest = Scene.LONGEST;
        Check.same("80 signs", 80, longest.length());
        Check.same("are a plan", 1, Check.addPlan(Scene.withChutes(3), longest));
        Check.same("79 signs end too early", -179, Check.addPlan(Scene.withChutes(3), longest.substring(0, 79)));
        Check.same("78 are a plan", 1, Check.addPlan(Scene.withChutes(3), longest.substring(0, 78)));
        fault("the last of 80", longest.substring(0, 79) + "x", 79);
        fault("the first of 80", "0" + longest.substring(1), 0);
        fault("80 that end too early", longest.replace(";1-99=0x0*1", ";01-99=0x0*"), 80);
        fault("80 that end too early", longest.replace(";1-99=0x0*1", ";0001-99=0x"), 80);
        fault("nothing", "", 0);
    }

    // ---- promise 6

    private static void numberOfPlans() {
        Check.holds("6", "Returns the number of plans");
        ParcelSorter x = Scene.withChutes(1);
        for (int plans = 1; plans <= 5; plans++) {
            Check.same("plans", plans, Check.addPlan(x, "@" + (9 - plans) + ":1=0x0"));
        }
        Check.same("one undone", 5, x.undo());
        Check.same("and again", 5, Check.addPlan(x, "@0:1=0x0"));
        Check.same("in place of the first one", 5, Check.addPlan(x, "@0:2=0x0"));
    }

    private static void emptyAfterwards() {
        Check.holds("6", "Adds the plan in the input, which is empty afterwards in any case");
        Twin.becomes("after a fault", Scene::withOneChute, Scene::withOneChute, x -> Check.addPlan(x, "@1:1="));
        Twin.becomes("after a fault in 80", Scene::withOneChute, Scene::withOneChute,
            x -> Check.addPlan(x, Scene.LONGEST.replace('=', ':')));
        for (String text : new String[] {"@1:100=0x0", "@1:2-1=0x0", "@1:1=1x0", "@1:1=0x1", Scene.LONGEST}) {
            refusedWithText(text, Check.IMPOSSIBLE, Scene::withOneChute);
        }
        Check.holds("6", "Throws `IllegalStateException` if there are 5 plans with other first ticks");
        for (String text : new String[] {"@0:1=0x0", "@6:1=0x0", "@9999:1=0x0"}) {
            refusedWithText(text, Check.STATE, Scene::withFivePlans);
        }
        ParcelSorter y = Scene.withOneChute();
        Check.same("a plan", 1, Check.addPlan(y, "@1:1=0x0"));
        Check.same("nothing is left of it", -100, y.addPlan());
        Check.same("so the next is not joined to it", 2, Check.addPlan(y, "@2:1=0x0"));
        Check.same("the first one in", 1, y.feed('@'));
        ParcelSorter z = Scene.FULL.get();
        Check.refuses("six", Check.STATE, () -> z.addPlan());
        Check.same("room for 80 again", 1, z.feed('@'));
    }

    /** But for the input, which is empty, nothing has changed; the scene's input is empty from the start. */
    private static void refusedWithText(String text, Class<?> due, Supplier<ParcelSorter> scene) {
        Twin.refused("addPlan of " + text, due, scene, x -> Check.addPlan(x, text));
    }

    private static void meaning() {
        Check.holds("Plans", "The number behind @ is the first tick; a rule gives the first and the last destination of "
            + "its range, which are the same if there is one number alone; a chute is a digit from 0 to 7");
        int[] ticks = {0, 7, 10, 999, 1000, 9999};
        String[] texts = {"0", "0007", "010", "999", "1000", "9999"};
        for (int i = 0; i < ticks.length; i++) {
            ParcelSorter x = Scene.withChutes(8);
            Check.addPlan(x, "@" + texts[i] + ":0=7x0");
            Check.same("first tick " + texts[i], ticks[i], x.plan(0, 0));
        }
        ParcelSorter x = Scene.withChutes(8);
        Check.addPlan(x, "@0:7=7;009-0011=0;99=1x0");
        int[] chutes = {-1, 7, -1, 0, 0, 0, -1, -1, 1};
        int[] destinations = {6, 7, 8, 9, 10, 11, 12, 98, 99};
        for (int i = 0; i < destinations.length; i++) {
            int destination = destinations[i];
            if (chutes[i] < 0) {
                Check.refuses("destination " + destination, Check.NONE, () -> x.route(0, destination, 0));
            } else {
                Check.same("destination " + destination, chutes[i], x.route(0, destination, 0));
            }
        }
    }

    private static void impossibleDestinations() {
        Check.holds("Plans", "A text is impossible if a destination is above 99, the first one is greater than the last one");
        Check.holds("6", "Throws `UnsupportedOperationException` if the text is impossible");
        String[] good = {"99", "0", "0-0", "99-99", "0-99", "0099", "98-99", "0000-0001"};
        String[] bad = {"100", "9999", "0-100", "99-100", "100-100", "100-99", "1-0", "99-98", "99-0", "1000-0", "0-9999"};
        for (String range : good) {
            possible("@0:" + range + "=0x0");
            possible(SEVEN_RULES.replaceAll("=.", "=0") + ";" + range + "=0x0");
        }
        for (String range : bad) {
            impossible(1, "@0:" + range + "=0x0");
            impossible(1, "@0:" + range + "=0;1=0x0");
            impossible(1, SEVEN_RULES.replaceAll("=.", "=0") + ";" + range + "=0x0");
        }
    }

    private static void possible(String text) {
        Check.same("possible: " + text, 1, Check.addPlan(Scene.withChutes(1), text));
    }

    private static void impossible(int chutes, String text) {
        ParcelSorter x = Scene.withChutes(chutes);
        Check.feed(x, text);
        Check.refuses("impossible with " + chutes + " chutes: " + text, Check.IMPOSSIBLE, () -> x.addPlan());
        Check.same("no plan", 0, x.count(4));
    }

    private static void impossibleChutes() {
        Check.holds("Plans", "or a chute does not exist");
        for (int chutes = 0; chutes <= 8; chutes++) {
            for (int chute = 0; chute <= 7; chute++) {
                int other = chute > 0 ? 0 : 1;
                String[] texts = {"@1:1=" + chute + "x0", "@1:1=0x" + chute, "@1:1=" + other + "," + chute + "x0",
                    "@1:1=" + chute + "," + other + "x0", "@1:1=0;2=" + chute + "x0"};
                for (int i = 0; i < texts.length; i++) {
                    boolean hasOther = i == 2 || i == 3;
                    if (chute < chutes && chutes > 0 && (!hasOther || other < chutes)) {
                        Check.same(texts[i], 1, Check.addPlan(Scene.withChutes(chutes), texts[i]));
                    } else {
                        impossible(chutes, texts[i]);
                    }
                }
            }
        }
        impossible(2, "@1:1=0,1,2x0");
        impossible(7, "@1:1=0,1,7x0");
        ParcelSorter x = Scene.withChutes(2);
        x.undo();
        Check.feed(x, "@1:1=1x0");
        Check.refuses("a chute that was undone", Check.IMPOSSIBLE, () -> x.addPlan());
    }

    private static void fivePlans() {
        Check.holds("Plans", "There are at most 5 plans, each with a first tick; no two have the same one.");
        ParcelSorter x = Scene.withFivePlans();
        Check.same("five", 5, x.count(4));
        Check.feed(x, "@6:1=0x0");
        Check.refuses("a sixth", Check.STATE, () -> x.addPlan());
        Check.same("five yet", 5, x.count(4));
        x.undo();
        Check.same("room again", 5, Check.addPlan(x, "@6:1=0x0"));
    }

    private static void sameFirstTick() {
        Check.holds("6", "in place of a plan with the same first tick");
        for (int tick = 1; tick <= 5; tick++) {
            ParcelSorter x = Scene.withFivePlans();
            Check.same("in place of one of five", 5, Check.addPlan(x, "@000" + tick + ":7-9=0x0*" + tick));
            for (int i = 0; i < 5; i++) {
                Check.same("first tick", i + 1, x.plan(i, 0));
                Check.same("bound", i == tick - 1 ? tick : 8, x.plan(i, 3));
                Check.same("without a rule", i == tick - 1 ? 97 : 99, x.plan(i, 4));
            }
        }
        ParcelSorter y = Scene.withOneChute();
        Check.same("the only one", 1, Check.addPlan(y, "@9999:1=0x0"));
        Check.same("in place of it", 1, Check.addPlan(y, "@9999:1-2=0x0"));
        Check.same("the new one", 98, y.plan(0, 4));
        Check.same("one tick beside it is another", 2, Check.addPlan(y, "@9998:1=0x0"));
    }

    private static void firstOfSeveral() {
        Check.holds("Exceptions", "If several exceptions apply, the one that is documented first is thrown.");
        refusedWithText("@6:100=0x0", Check.IMPOSSIBLE, Scene::withFivePlans);
        refusedWithText("@6:2-1=0x0", Check.IMPOSSIBLE, Scene::withFivePlans);
        refusedWithText("@6:1=1x0", Check.IMPOSSIBLE, Scene::withFivePlans);
        refusedWithText("@6:1=0x1", Check.IMPOSSIBLE, Scene::withFivePlans);
        refusedWithText("@1:1=0x1", Check.IMPOSSIBLE, Scene::withFivePlans);
        Check.same("a fault is told before both", -110, Check.addPlan(Scene.withFivePlans(), "@6:100=0x1x"));
    }
}
