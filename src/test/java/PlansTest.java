/** Promises 5 to 8, 27 and 28: feed, addPlan, plan, route, write, paper. */
public final class PlansTest {
    public static void main(String[] args) {
        feed();
        faults();
        everyPrefixEndsTooEarly();
        impossible();
        addPlan();
        tooManyPlans();
        inputIsEmptyAfterwards();
        parts();
        route();
        write();
        Check.end();
    }

    private static ParcelSorter withChutes(int chutes) {
        ParcelSorter x = new ParcelSorter();
        x.build(30);
        for (int i = 0; i < chutes; i++) {
            x.addChute(10 + i, 5, 0, 50, 1, 0);
        }
        return x;
    }

    private static void feed() {
        ParcelSorter x = new ParcelSorter();
        for (int i = 1; i <= 80; i++) {
            Check.same("feed", i, x.feed((char) (i * 800)));
        }
        Check.refuses("the 81st", Check.STATE, () -> x.feed('a'));
        Check.refuses("the 81st again", Check.STATE, () -> x.feed('@'));
        Check.same("no plan", -100, x.addPlan());
        Check.same("empty again", 1, x.feed('@'));
        Check.refuses("feed is no change", Check.STATE, () -> x.undo());
    }

    private static void faults() {
        ParcelSorter x = withChutes(8);
        Object[][] texts = {
            {"", 0}, {"5", 0}, {"@", 1}, {"@:", 1}, {"@x", 1}, {"@12345:1=0x0", 5}, {"@1-", 2}, {"@1:", 3},
            {"@1:=", 3}, {"@1:5", 4}, {"@1:5:", 4}, {"@1:12345=0x0", 7}, {"@1:5-", 5}, {"@1:5-=", 5},
            {"@1:5-6-7=0x0", 6}, {"@1:5-12345=0x0", 9}, {"@1:5=", 5}, {"@1:5=8x0", 5}, {"@1:5=9x0", 5},
            {"@1:5=x0", 5}, {"@1:5=0", 6}, {"@1:5=0,", 7}, {"@1:5=0,0x0", 7}, {"@1:5=0,1,0x0", 9},
            {"@1:5=0,1,1x0", 9}, {"@1:5=0,1,2,3x0", 10}, {"@1:5=00x0", 6}, {"@1:5=0;", 7}, {"@1:5=0;x0", 7},
            {"@1:5=0*3", 6}, {"@1:5=0x", 7}, {"@1:5=0x8", 7}, {"@1:5=0x*", 7}, {"@1:5=0x00", 8},
            {"@1:5=0x0;", 8}, {"@1:5=0x0*", 9}, {"@1:5=0x0*x", 9}, {"@1:5=0x0*33", 10}, {"@1:5=0x0 ", 8},
            {" @1:5=0x0", 0}, {"@1:5=0X0", 6}, {"@@", 1}, {"@1:5=0,\u0130x0", 7}, {"@\u0660:5=0x0", 1},
            {"@1:1=0;2=0;3=0;4=0;5=0;6=0;7=0;8=0;9=0x0", 34}, {"@1:1=0;2=0;3=0;4=0;5=0;6=0;7=0;8=0;", 34},
            {"@1:999=0x9", 9}, {"@1:9-8=7;", 9}, {"@1:5=/x0", 5}, {"@1:5=0x0*:", 9}, {"@1/5=0x0", 2}};
        for (Object[] text : texts) {
            Check.same("fault of " + text[0], -100 - (int) text[1], Check.addPlan(x, (String) text[0]));
        }
        Check.same("no plan was added", 0, x.count(4));
        Check.same("a fault is no change", 7, x.undo());
    }

    private static void everyPrefixEndsTooEarly() {
        ParcelSorter x = withChutes(4);
        String text = "@12:0-49=0,1,2;5=3x1*0";
        String ends = "@12:0-49=0,1,2;5=3x1";
        for (int i = 0; i < text.length(); i++) {
            if (i == ends.length()) {
                continue;
            }
            Check.same("prefix " + i, -100 - i, Check.addPlan(x, text.substring(0, i)));
        }
        Check.same("without the bound", 1, Check.addPlan(x, ends));
        Check.same("whole", 1, Check.addPlan(x, text));
    }

    private static void impossible() {
        ParcelSorter x = withChutes(3);
        String[] texts = {
            "@1:100=0x0", "@1:0-100=0x0", "@1:9999=0x0", "@1:9-8=0x0", "@1:100-99=0x0", "@1:1=3x0", "@1:1=0x3",
            "@1:1=0,1,7x0", "@1:1=0;2=1;99-98=2x0", "@1:1=0;2=1;3=0,4x0", "@1:1=0x7*0"};
        for (String text : texts) {
            Check.feed(x, text);
            Check.refuses("impossible " + text, Check.IMPOSSIBLE, () -> x.addPlan());
            Check.same("the input is empty", 1, x.feed(' '));
            Check.same("a fault", -100, x.addPlan());
        }
        Check.same("no plan", 0, x.count(4));
        Check.same("a fault goes before the impossible", -110, Check.addPlan(x, "@1:100=0x0,"));
        Check.same("just possible", 1, Check.addPlan(x, "@1:0-99=2;99=0,1,2;0000=1x2"));
        Check.same("three chutes and a plan", 3, x.undo());
    }

    private static void addPlan() {
        ParcelSorter x = withChutes(8);
        Check.same("first", 1, Check.addPlan(x, "@10:1=1x0"));
        Check.same("later", 2, Check.addPlan(x, "@9999:2=2x0"));
        Check.same("earlier", 3, Check.addPlan(x, "@0:3=3x0"));
        Check.same("between", 4, Check.addPlan(x, "@0011:4=4x0"));
        int[] ticks = {0, 10, 11, 9999};
        for (int i = 0; i < ticks.length; i++) {
            Check.same("in order", ticks[i], x.plan(i, 0));
        }
        Check.same("in place of another", 4, Check.addPlan(x, "@11:5-6=5;7=6x7*0"));
        Check.same("rules", 2, x.plan(2, 1));
        Check.same("exception", 7, x.plan(2, 2));
        Check.same("bound", 0, x.plan(2, 3));
        Check.same("the next is as it was", 1, x.plan(3, 1));
        Check.same("the one before too", 1, x.plan(1, 1));
        Check.same("eight rules", 5, Check.addPlan(x, "@5:1=0;2=0;3=0;4=0;5=0;6=0;7=0;8=0,1,7x0*9"));
        Check.same("rules", 8, x.plan(1, 1));
        Check.same("the eighth", 3, x.route(5, 8, -1));
        Check.same("the longest text", 5,
            Check.addPlan(x, "@0005:0001-0099=0,1,2;0001-0099=0,1,2;0001-0099=0,1,2;0001-0099=0,1,2;1-99=0x0*1"));
        Check.same("its rules", 5, x.plan(1, 1));
    }

    private static void tooManyPlans() {
        ParcelSorter x = withChutes(1);
        for (int i = 1; i <= 5; i++) {
            Check.same("plan", i, Check.addPlan(x, "@" + i + ":1=0x0"));
        }
        for (int tick : new int[] {0, 6, 9999}) {
            Check.feed(x, "@" + tick + ":1=0x0");
            Check.refuses("a sixth", Check.STATE, () -> x.addPlan());
            Check.same("the input is empty", -100, x.addPlan());
        }
        Check.feed(x, "@6:1=1x0");
        Check.refuses("impossible goes first", Check.IMPOSSIBLE, () -> x.addPlan());
        Check.same("a fault goes first", -108, Check.addPlan(x, "@6:1=0x0,"));
        Check.same("in place of another", 5, Check.addPlan(x, "@5:1=0x0*8"));
        Check.same("its bound", 8, x.plan(4, 3));
        Check.same("in place of the first", 5, Check.addPlan(x, "@1:1=0x0*7"));
        Check.same("its bound", 7, x.plan(0, 3));
    }

    private static void inputIsEmptyAfterwards() {
        ParcelSorter x = withChutes(1);
        Check.addPlan(x, "@1:1=0x0");
        Check.same("after a plan", 1, x.feed('@'));
        Check.same("a fault", -101, x.addPlan());
        Check.same("after a fault", 1, x.feed('@'));
    }

    private static void parts() {
        ParcelSorter x = withChutes(3);
        Check.addPlan(x, "@70:10-19=0;15-24=1;99=2x1");
        Check.same("first tick", 70, x.plan(0, 0));
        Check.same("rules", 3, x.plan(0, 1));
        Check.same("exception", 1, x.plan(0, 2));
        Check.same("bound", 3, x.plan(0, 3));
        Check.same("without a rule", 84, x.plan(0, 4));
        Check.addPlan(x, "@71:0-99=0x1*9");
        Check.same("without a rule", 0, x.plan(1, 4));
        Check.same("bound", 9, x.plan(1, 3));
        Check.refuses("what 5", Check.RANGE, () -> x.plan(0, 5));
        Check.refuses("what -1", Check.RANGE, () -> x.plan(1, -1));
        Check.refuses("plan 2", Check.INDEX, () -> x.plan(2, 0));
        Check.refuses("plan -1", Check.INDEX, () -> x.plan(-1, 5));
    }

    private static void route() {
        ParcelSorter x = withChutes(8);
        Check.refuses("no plan", Check.STATE, () -> x.route(0, 0, 0));
        Check.addPlan(x, "@5:10-20=3,1,7;15-30=2x0");
        Check.addPlan(x, "@9:0-99=6x0");
        Check.refuses("no plan of tick 4", Check.STATE, () -> x.route(4, 10, 0));
        Check.refuses("negative tick", Check.RANGE, () -> x.route(-1, 10, 0));
        Check.refuses("destination 100", Check.RANGE, () -> x.route(4, 100, 0));
        Check.refuses("destination -1", Check.RANGE, () -> x.route(5, -1, 0));
        Check.refuses("no rule", Check.NONE, () -> x.route(5, 9, -1));
        Check.refuses("no rule", Check.NONE, () -> x.route(5, 31, 0));
        Check.same("number", 3, x.route(5, 10, -1));
        Check.same("0", 3, x.route(5, 10, 0));
        Check.same("1", 1, x.route(8, 15, 1));
        Check.same("2", 7, x.route(5, 20, 2));
        Check.refuses("3", Check.NONE, () -> x.route(5, 20, 3));
        Check.refuses("-2", Check.NONE, () -> x.route(5, 20, -2));
        Check.refuses("greatest", Check.NONE, () -> x.route(5, 20, Integer.MAX_VALUE));
        Check.refuses("least", Check.NONE, () -> x.route(5, 20, Integer.MIN_VALUE));
        Check.same("the second rule", 2, x.route(5, 21, 0));
        Check.same("its number", 1, x.route(5, 30, -1));
        Check.refuses("not of the next rule", Check.NONE, () -> x.route(5, 30, 1));
        Check.same("the later plan", 6, x.route(9, 10, 0));
        Check.same("the later plan", 6, x.route(Integer.MAX_VALUE, 99, 0));
    }

    private static void write() {
        ParcelSorter x = withChutes(8);
        String[][] texts = {
            {"@0:0=0x0", "@0:0=0x0"}, {"@0000:0000-0000=0x0*3", "@0:0=0x0"}, {"@0120:010=7x7*0", "@120:10=7x7*0"},
            {"@9999:00-99=2,1,0;5-5=4;06-07=3,4x1*9", "@9999:0-99=2,1,0;5=4;6-7=3,4x1*9"},
            {"@1:1=0;2=0;3=0;4=0;5=0;6=0;7=0;8-9=0,1,7x6*2", "@1:1=0;2=0;3=0;4=0;5=0;6=0;7=0;8-9=0,1,7x6*2"}};
        for (String[] text : texts) {
            ParcelSorter y = withChutes(8);
            Check.addPlan(y, text[0]);
            Check.same("length", text[1].length(), y.write(0));
            Check.same("text", text[1], Check.paper(y, text[1].length()));
            Check.refuses("behind it", Check.INDEX, () -> y.paper(text[1].length()));
            Check.refuses("before it", Check.INDEX, () -> y.paper(-1));
            Check.same("read again", 1, Check.addPlan(y, text[1]));
            Check.same("written again", text[1], Check.written(y, 0));
        }
        Check.refuses("no plan", Check.INDEX, () -> x.write(0));
        Check.addPlan(x, "@5:1-98=0,1x3*4");
        Check.addPlan(x, "@4:1=0x0");
        Check.refuses("no plan 2", Check.INDEX, () -> x.write(2));
        Check.refuses("no plan -1", Check.INDEX, () -> x.write(-1));
        Check.refuses("still empty", Check.INDEX, () -> x.paper(0));
        Check.same("the second", "@5:1-98=0,1x3*4", Check.written(x, 1));
        Check.refuses("write 2", Check.INDEX, () -> x.write(2));
        Check.same("a refused write keeps the paper", '4', x.paper(14));
        Check.same("in place of it", 8, x.write(0));
        Check.refuses("the rest is gone", Check.INDEX, () -> x.paper(8));
        x.undo();
        Check.same("write is no change, and undo keeps the paper", "@4:1=0x0", Check.paper(x, 8));
    }
}
