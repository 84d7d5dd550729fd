/** Boundary cases of promises 14 to 20 and of what "Terms" say of TABLES, STAR, FALSE, RISK, DUE and COST. */
public final class StarsEdgesTest {
    private static final Due DUE = new Due();
    private static final String KITCHEN = "kitchen(0, 0, 1, 0, 0)";

    private static Run run(String sentence) {
        return new Run(DUE, sentence);
    }

    private static void table() {
        run("P14: from a DAY on, now or later").did("days(7)").refused("table(6, 0, 0, 0, 0)", -4)
                .refused("table(-1, 0, 0, 0, 0)", -4).due("table(7, 0, 0, 0, 0)", 0).due("table(8, 0, 0, 0, 0)", 1).end();
        run("P14: DAY 1500 at most").refused("table(1501, 0, 0, 0, 0)", -6).due("table(1500, 0, 0, 0, 0)", 0).end();
        run("P14: bounds 0 .. 999").refused("table(0, -1, 0, 0, 0)", -4).refused("table(0, -1, -1, -1, -1)", -4)
                .refused("table(0, 999, 999, 999, 1000)", -6).refused("table(0, 1000, 1000, 1000, 1000)", -6)
                .due("table(0, 0, 0, 0, 0)", 0).due("table(0, 999, 999, 999, 999)", 1).end();
        run("P14: b4 at most b3").refused("table(0, 6, 5, 7, 8)", -4).due("table(0, 5, 5, 7, 8)", 0).end();
        run("P14: b3 at most b2").refused("table(0, 1, 6, 5, 8)", -4).due("table(0, 1, 5, 5, 8)", 0).end();
        run("P14: b2 at most b1").refused("table(0, 1, 2, 6, 5)", -4).due("table(0, 1, 2, 5, 5)", 0).end();
        run("P14: 10 at most").times(9, "table(0, 1, 2, 3, 4)").due("table(0, 1, 2, 3, 4)", 9)
                .refused("table(0, 1, 2, 3, 4)", -6).due("count(5)", 10).end();
        run("P14: -4 ahead of -6").did("days(1)").times(10, "table(1, 1, 2, 3, 4)").refused("table(0, 1, 2, 3, 4)", -4)
                .refused("table(1, 1, 2, 4, 3)", -4).refused("table(0, 0, 0, 0, 1000)", -4)
                .refused("table(1501, -1, 0, 0, 0)", -4).refused("table(1501, 1000, 999, 999, 999)", -4).end();
    }

    /** Code 0 is worth a point and code 1 ten. */
    private static Run scored(String sentence, String table) {
        return run(sentence).did(KITCHEN, "code(0, 1, 0)", "code(1, 10, 0)", table);
    }

    private static void score(Run run, int score, int star) {
        run.did("look(0, 0, 0)");
        if (score >= 10) run.did("find(1, " + score / 10 + ")");
        if (score % 10 > 0) run.did("find(0, " + score % 10 + ")");
        run.due("star(0, 0, 0)", star);
    }

    private static void starByTable() {
        Run each = scored("STAR: below a bound", "table(0, 10, 20, 30, 40)");
        int[] scores = {0, 9, 10, 19, 20, 29, 30, 39, 40, 41};
        int[] stars = {5, 5, 4, 4, 3, 3, 2, 2, 1, 1};
        for (int i = 0; i < scores.length; i++) score(each, scores[i], stars[i]);
        each.end();
        Run alike = scored("STAR: bounds that are alike", "table(0, 5, 5, 5, 5)");
        score(alike, 4, 5);
        score(alike, 5, 1);
        alike.end();
        Run none = scored("STAR: nothing is below 0", "table(0, 0, 0, 0, 0)");
        score(none, 0, 1);
        none.end();
        Run some = scored("STAR: 0 is below 1", "table(0, 0, 0, 1, 1)");
        score(some, 0, 3);
        score(some, 1, 1);
        some.end();
        Run most = run("STAR: a SCORE of 998, 999 and 1000").did(KITCHEN, "table(0, 998, 999, 999, 999)", "look(0, 0, 0)");
        for (int group = 0; group < 5; group++) {
            most.did("most(" + group + ", 200)", "code(" + group + ", 50, 0)", "find(" + group + ", 4)");
        }
        most.did("most(4, 197)").due("star(0, 0, 0)", 5).did("most(4, 198)").due("star(0, 0, 0)", 4);
        most.did("most(4, 199)").due("star(0, 0, 0)", 1).did("most(4, 200)").due("star(0, 0, 0)", 1).end();
    }

    private static void starInForce() {
        run("without a TABLE in force: no STAR").did(KITCHEN, "look(0, 0, 0)").due("star(0, 0, 0)", 0).end();
        run("a TABLE from its DAY on").did(KITCHEN, "table(5, 1, 1, 1, 1)", "days(9)", "look(0, 0, 4)")
                .due("star(0, 9, 9)", 0).did("look(0, 0, 5)").due("star(0, 9, 9)", 5).due("star(0, 4, 9)", 0).end();
        run("the latest DAY not behind it").did(KITCHEN, "table(5, 1, 1, 1, 1)", "table(8, 0, 1, 1, 1)", "days(9)",
                "look(0, 0, 7)").due("star(0, 9, 9)", 5).did("look(0, 0, 8)").due("star(0, 9, 9)", 4).end();
        run("a later TABLE stands, whatever its number").did(KITCHEN, "table(8, 0, 1, 1, 1)", "table(5, 1, 1, 1, 1)",
                "days(9)", "look(0, 0, 7)").due("star(0, 9, 9)", 5).did("look(0, 0, 8)").due("star(0, 9, 9)", 4).end();
        run("of several the greatest number").did(KITCHEN, "table(0, 1, 1, 1, 1)", "look(0, 0, 0)")
                .due("star(0, 0, 0)", 5).did("table(0, 0, 1, 1, 1)").due("star(0, 0, 0)", 4)
                .did("table(0, 0, 0, 1, 1)").due("star(0, 0, 0)", 3).end();
        run("the TABLE of DAY 1500").did(KITCHEN, "table(1500, 1, 1, 1, 1)", "days(1500)", "look(0, 0, 1499)")
                .due("star(0, 1500, 1500)", 0).did("look(0, 0, 1500)").due("star(0, 1500, 1500)", 5).end();
        run("the TABLE of its DAY, not of now").did(KITCHEN, "table(0, 1, 1, 1, 1)", "look(0, 0, 0)", "days(5)",
                "table(5, 0, 0, 0, 0)").due("star(0, 5, 5)", 5).end();
    }

    private static void star() {
        String[] start = {KITCHEN, "table(0, 1, 1, 1, 1)", "days(10)"};
        run("P15: no such KITCHEN").did(start).refused("star(-1, 0, 0)", -1).refused("star(1, 0, 0)", -1).end();
        run("P15: DAYS 0 .. 1500").did(start).refused("star(0, -1, 0)", -4).refused("star(0, 0, -1)", -4)
                .refused("star(0, 1501, 0)", -6).refused("star(0, 0, 1501)", -6).due("star(0, 0, 0)", 0)
                .due("star(0, 1500, 1500)", 0).end();
        run("P15: -1, -4, -6 in this order").did(start).refused("star(1, -1, 1501)", -1).refused("star(1, 1501, 0)", -1)
                .refused("star(0, -1, 1501)", -4).refused("star(0, 1501, -1)", -4).end();
        run("STAR: 0 without a LOOK").did(start).did(KITCHEN, "look(1, 0, 10)").due("star(0, 10, 10)", 0).end();
        run("STAR: LOOKS of DAYS not behind j").did(start).did("look(0, 0, 6)").due("star(0, 5, 10)", 0)
                .due("star(0, 6, 10)", 5).due("star(0, 1500, 10)", 5).end();
        run("STAR: KNOWN by K").did(start).did("look(0, 0, 6)").due("star(0, 10, 9)", 0).due("star(0, 10, 10)", 5)
                .due("star(0, 10, 1500)", 5).end();
        run("STAR: not TAKEN BACK by K").did(start).did("look(0, 0, 6)", "days(5)", "back(0)").due("star(0, 10, 14)", 5)
                .due("star(0, 10, 15)", 0).due("star(0, 10, 1500)", 0).due("star(0, 10, 10)", 5).end();
        run("STAR: TAKEN BACK on the DAY it was KNOWN").did(start).did("look(0, 0, 6)", "back(0)")
                .due("star(0, 10, 9)", 0).due("star(0, 10, 10)", 0).due("star(0, 10, 11)", 0).end();
        run("STAR: TAKEN BACK on DAY 1500").did(KITCHEN, "table(0, 1, 1, 1, 1)", "days(1500)", "look(0, 0, 0)",
                "back(0)").due("star(0, 1500, 1500)", 0).due("star(0, 1500, 1499)", 0).end();
        run("STAR: the one of the latest DAY").did(start).did("code(0, 1, 10)", "table(10, 0, 0, 0, 2)",
                "look(0, 0, 10)", "find(0, 1)", "look(0, 0, 9)").due("star(0, 10, 10)", 2).due("star(0, 9, 10)", 5).end();
        run("STAR: of several the greatest number").did(KITCHEN, "code(0, 1, 0)", "table(0, 1, 2, 3, 4)",
                "look(0, 0, 0)", "find(0, 2)", "look(0, 1, 0)", "find(0, 1)").due("star(0, 0, 0)", 4).did("back(1)")
                .due("star(0, 0, 0)", 3).did("back(0)").due("star(0, 0, 0)", 0).end();
        run("STAR: its SCORE as of its own DAY").did(KITCHEN, "code(0, 1, 0)", "code(0, 50, 0)", "table(0, 1, 2, 3, 4)",
                "turn(0, 1, 5)", "days(9)", "look(0, 0, 4)", "find(0, 1)").due("star(0, 9, 9)", 4).did("look(0, 0, 5)",
                "find(0, 1)").due("star(0, 9, 9)", 1).due("star(0, 4, 9)", 4).end();
    }

    private static void shown() {
        run("P16: no such KITCHEN").did(KITCHEN).refused("show(-1, 0)", -1).refused("show(1, 0)", -1).end();
        run("P16: SHOWN 0 .. 5; 0 at first").did(KITCHEN).refused("show(0, -1)", -4).refused("show(0, 6)", -6)
                .due("show(0, 5)", 0).refused("show(0, 6)", -6).due("show(0, 0)", 5).due("show(0, 0)", 0).end();
        run("P16: -1, -4, -6 in this order").did(KITCHEN).refused("show(1, -1)", -1).refused("show(1, 6)", -1).end();
        run("P17: SHOWN is above its STAR").did(KITCHEN, "code(0, 1, 0)", "table(0, 1, 2, 3, 4)", "look(0, 0, 0)",
                "find(0, 2)", "show(0, 2)").due("falses()", 0).did("show(0, 3)").due("falses()", 0).did("show(0, 4)")
                .due("falses()", 1).did("show(0, 5)").due("falses()", 1).end();
        run("P17: without a STAR: SHOWN above 0").did(KITCHEN).due("falses()", 0).did("show(0, 1)").due("falses()", 1)
                .did("show(0, 0)").due("falses()", 0).end();
        run("P17: now as of now").did(KITCHEN, "table(0, 1, 1, 1, 1)", "look(0, 0, 0)", "show(0, 5)")
                .due("falses()", 0).did("days(1)", "back(0)").due("falses()", 1).end();
        Run all = run("P17: all 20");
        for (int kitchen = 0; kitchen < 20; kitchen++) all.did(KITCHEN).did("show(" + kitchen + ", 1)");
        all.due("falses()", 20).end();
    }

    private static void base() {
        run("P18: KIND 0 .. 3").refused("base(-1, 1)", -2).refused("base(4, 1)", -2).due("base(0, 1)", 10)
                .due("base(3, 1)", 10).end();
        run("P18: BASE 1 .. 50; 10 at first").refused("base(1, 0)", -4).refused("base(1, 51)", -6).due("base(1, 1)", 10)
                .refused("base(1, 0)", -4).due("base(1, 50)", 1).refused("base(1, 51)", -6).due("base(1, 50)", 50).end();
        run("P18: -2, -4, -6 in this order").refused("base(4, 0)", -2).refused("base(4, 51)", -2)
                .refused("base(-1, 0)", -2).end();
    }

    private static void risk() {
        run("P19: no such KITCHEN; another what").did(KITCHEN).refused("risk(-1, 0)", -1).refused("risk(1, 0)", -1)
                .refused("risk(0, -1)", -2).refused("risk(0, 2)", -2).refused("risk(1, 2)", -1).due("risk(0, 0)", 34)
                .due("risk(0, 1)", 0).end();
        Run mouths = run("RISK: 1 for each 50 MOUTHS, cut");
        int[] many = {1, 49, 50, 99, 100, 949, 950, 999};
        int[] more = {0, 0, 1, 1, 2, 18, 19, 19};
        for (int i = 0; i < many.length; i++) {
            mouths.did("kitchen(0, 0, " + many[i] + ", 0, 0)").due("risk(" + i + ", 0)", 10 + more[i] + 24);
        }
        mouths.end();
        Run stars = run("RISK: 8 times what its STAR lacks to 5").did(KITCHEN, "code(0, 1, 0)", "table(0, 1, 2, 3, 4)",
                "look(0, 0, 0)").due("risk(0, 0)", 10);
        for (int score = 1; score <= 4; score++) stars.did("find(0, 1)").due("risk(0, 0)", 10 + 8 * score);
        stars.did("find(0, 1)").due("risk(0, 0)", 42).did("back(0)").due("risk(0, 0)", 34).end();
        run("RISK: with STAR 0: 8 times 3").did(KITCHEN, "look(0, 0, 0)").due("risk(0, 0)", 34).end();
        run("RISK: the least and the greatest").did(KITCHEN, "kitchen(3, 0, 999, 0, 0)", "base(0, 1)", "base(3, 50)",
                "table(0, 1, 1, 1, 1)", "look(0, 0, 0)").due("risk(0, 0)", 1).did("table(0, 0, 0, 0, 0)",
                "look(1, 0, 0)").due("risk(1, 0)", 50 + 19 + 32).due("risk(1, 1)", 20).end();
    }

    private static void due() {
        Run spans = run("SPAN: 400 by RISK, cut, 20 at least").did(KITCHEN, "table(0, 1, 1, 1, 1)", "look(0, 0, 0)");
        int[] risks = {1, 2, 3, 18, 19, 20, 21, 50};
        int[] span = {400, 200, 133, 22, 21, 20, 20, 20};
        for (int i = 0; i < risks.length; i++) {
            spans.did("base(0, " + risks[i] + ")").due("risk(0, 0)", risks[i]).due("risk(0, 1)", span[i]);
        }
        spans.end();
        run("DUE: without a LOOK: 0").did(KITCHEN, KITCHEN, "days(9)", "look(1, 0, 9)").due("risk(0, 1)", 0).did(
                "look(0, 0, 9)").due("risk(0, 1)", 29).did("back(1)").due("risk(0, 1)", 0).end();
        run("DUE: of a LOOK of DAY 0").did(KITCHEN, "days(9)", "look(0, 0, 0)").due("risk(0, 1)", 20).end();
        run("DUE: the latest LOOK that counts").did(KITCHEN, "days(9)", "look(0, 0, 7)", "look(0, 0, 5)")
                .due("risk(0, 1)", 27).did("back(0)").due("risk(0, 1)", 25).end();
        run("DUE: may lie behind 1500").did(KITCHEN, "base(0, 1)", "table(1500, 1, 1, 1, 1)", "days(1500)",
                "look(0, 0, 1500)").due("risk(0, 1)", 1900).due("delay(0, 1500)", 0).end();
    }

    private static void delay() {
        run("P20: no such KITCHEN").did(KITCHEN).refused("delay(-1, 0)", -1).refused("delay(1, 0)", -1).end();
        run("P20: DAYS 0 .. 1500").did(KITCHEN).refused("delay(0, -1)", -4).refused("delay(0, 1501)", -6)
                .due("delay(0, 0)", 0).due("delay(0, 1)", 34).end();
        run("P20: -1, -4, -6 in this order").did(KITCHEN).refused("delay(1, -1)", -1).refused("delay(1, 1501)", -1).end();
        String[] twenty = {KITCHEN, "base(0, 20)", "table(0, 1, 1, 1, 1)", "look(0, 0, 0)"};
        run("COST: 0 if t is not behind DUE").did(twenty).due("risk(0, 1)", 20).due("delay(0, 0)", 0)
                .due("delay(0, 19)", 0).due("delay(0, 20)", 0).due("delay(0, 21)", 20).end();
        run("COST: for each whole 30 a tenth more").did(twenty).due("delay(0, 49)", 580).due("delay(0, 50)", 660)
                .due("delay(0, 51)", 682).due("delay(0, 79)", 1298).due("delay(0, 80)", 1452).end();
        run("COST: a tenth, cut").did(KITCHEN, "base(0, 1)", "table(0, 1, 1, 1, 1)", "look(0, 0, 0)")
                .due("risk(0, 1)", 400).due("delay(0, 429)", 29).due("delay(0, 430)", 33).due("delay(0, 439)", 42)
                .due("delay(0, 440)", 44).due("delay(0, 459)", 64).due("delay(0, 460)", 72).end();
        long cost = 93 * 1500;
        for (int tenth = 0; tenth < 50; tenth++) cost += cost / 10;
        run("COST: the greatest").did("kitchen(0, 0, 999, 0, 0)", "base(0, 50)").due("risk(0, 0)", 93)
                .due("delay(0, 1500)", cost).end();
    }

    public static void main(String[] args) {
        table();
        starByTable();
        starInForce();
        star();
        shown();
        base();
        risk();
        due();
        delay();
        DUE.finish();
    }
}
