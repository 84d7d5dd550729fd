/** Boundary cases of promises 7 to 13 and of what "Terms" say of KITCHENS, KIN, LOOKS, FINDINGS and SCORE. */
public final class LooksEdgesTest {
    private static final Due DUE = new Due();
    private static final String KITCHEN = "kitchen(0, 0, 1, 0, 0)";

    private static Run run(String sentence) {
        return new Run(DUE, sentence);
    }

    private static void kitchen() {
        run("P7: KIND 0 .. 3").refused("kitchen(-1, 0, 1, 0, 0)", -2).refused("kitchen(4, 0, 1, 0, 0)", -2)
                .due(KITCHEN, 0).due("kitchen(3, 0, 1, 0, 0)", 1).end();
        run("P7: STREET 0 .. 5").refused("kitchen(0, -1, 1, 0, 0)", -1).refused("kitchen(0, 6, 1, 0, 0)", -1)
                .due(KITCHEN, 0).due("kitchen(0, 5, 1, 0, 0)", 1).end();
        run("P7: MOUTHS 1 .. 999").refused("kitchen(0, 0, 0, 0, 0)", -4).refused("kitchen(0, 0, -1, 0, 0)", -4)
                .refused("kitchen(0, 0, 1000, 0, 0)", -6).due(KITCHEN, 0).due("kitchen(0, 0, 999, 0, 0)", 1).end();
        run("P7: OWNER 0 .. 9").refused("kitchen(0, 0, 1, -1, 0)", -1).refused("kitchen(0, 0, 1, 10, 0)", -1)
                .due(KITCHEN, 0).due("kitchen(0, 0, 1, 9, 0)", 1).end();
        run("P7: DISHES 0 .. 255").refused("kitchen(0, 0, 1, 0, -1)", -4).refused("kitchen(0, 0, 1, 0, 256)", -6)
                .due(KITCHEN, 0).due("kitchen(0, 0, 1, 0, 255)", 1).end();
        run("P7: 20 at most").times(19, KITCHEN).due(KITCHEN, 19).refused(KITCHEN, -6).due("count(2)", 20)
                .due("hard(19, true)", 1).refused("hard(20, true)", -1).end();
        run("P7: -2, -1, -4, -6 in this order").times(20, KITCHEN).refused("kitchen(4, 6, 0, 10, 256)", -2)
                .refused("kitchen(0, 6, 0, 0, 256)", -1).refused("kitchen(0, 0, 0, 10, 256)", -1)
                .refused("kitchen(0, 0, 0, 0, 256)", -4).refused("kitchen(0, 0, 1000, 0, -1)", -4)
                .refused("kitchen(0, 0, 1000, 0, 0)", -6).end();
    }

    private static void hardAndKin() {
        run("P8: no such KITCHEN").did(KITCHEN).refused("hard(-1, true)", -1).refused("hard(1, false)", -1).end();
        run("P8: HARD or not, not at first").did(KITCHEN, KITCHEN).due("hard(0, false)", 0).due("hard(0, true)", 1)
                .due("hard(0, true)", 0).due("hard(1, false)", 0).due("hard(0, false)", 1).due("hard(0, false)", 0)
                .end();
        run("P9: INSPECTORS are 0 .. 4").refused("kin(-1, 0, true)", -1).refused("kin(5, 0, true)", -1)
                .refused("kin(5, 0, false)", -1).due("kin(0, 0, true)", 1).due("kin(4, 0, true)", 1).end();
        run("P9: OWNERS are 0 .. 9").refused("kin(0, -1, true)", -1).refused("kin(0, 10, true)", -1)
                .refused("kin(0, 10, false)", -1).due("kin(0, 0, true)", 1).due("kin(0, 9, true)", 1).end();
        run("P9: 1; 0 if it was so").due("kin(2, 3, false)", 0).due("kin(2, 3, true)", 1).due("kin(2, 3, true)", 0)
                .due("kin(3, 2, false)", 0).due("kin(2, 3, false)", 1).due("kin(2, 3, false)", 0).end();
        Run all = run("P9: each INSPECTOR with each OWNER");
        for (int way = 0; way < 50; way++) all.due("kin(" + way / 10 + ", " + way % 10 + ", true)", 1);
        for (int way = 0; way < 50; way++) all.due("kin(" + way / 10 + ", " + way % 10 + ", true)", 0);
        all.end();
    }

    private static void look() {
        run("P10: no such KITCHEN").did(KITCHEN).refused("look(-1, 0, 0)", -1).refused("look(1, 0, 0)", -1)
                .due("look(0, 0, 0)", 0).end();
        run("P10: no such INSPECTOR").did(KITCHEN).refused("look(0, -1, 0)", -1).refused("look(0, 5, 0)", -1)
                .due("look(0, 0, 0)", 0).due("look(0, 4, 0)", 1).end();
        run("P10: -7 KIN of its OWNER").did("kitchen(0, 0, 1, 9, 0)", "kin(4, 9, true)").refused("look(0, 4, 0)", -7)
                .due("look(0, 3, 0)", 0).did("kin(4, 9, false)").due("look(0, 4, 0)", 1).end();
        run("P10: KIN of another OWNER is not barred").did("kitchen(0, 0, 1, 3, 0)", "kin(0, 2, true)",
                "kin(0, 4, true)").due("look(0, 0, 0)", 0).end();
        run("P10: KIN told later leaves a LOOK").did(KITCHEN, "table(0, 1, 1, 1, 1)", "look(0, 0, 0)",
                "kin(0, 0, true)").due("star(0, 0, 0)", 5).due("count(3)", 1).refused("look(0, 0, 0)", -7).end();
        run("P10: -3 a DAY behind now").did(KITCHEN, "days(5)").refused("look(0, 0, 6)", -3)
                .refused("look(0, 0, 1501)", -3).refused("look(0, 0, MAX)", -3).due("look(0, 0, 5)", 0)
                .due("look(0, 0, 4)", 1).end();
        run("P10: -4 DAY below 0").did(KITCHEN, "days(5)").refused("look(0, 0, -1)", -4).refused("look(0, 0, MIN)", -4)
                .due("look(0, 0, 0)", 0).end();
        run("P10: on the first DAY and on the last").did(KITCHEN).refused("look(0, 0, 1)", -3).due("look(0, 0, 0)", 0)
                .did("days(1500)").refused("look(0, 0, 1501)", -3).due("look(0, 0, 1500)", 1).end();
        run("P10: 80 at most").did(KITCHEN).times(79, "look(0, 0, 0)").due("look(0, 0, 0)", 79)
                .refused("look(0, 0, 0)", -6).due("count(3)", 80).due("score(79, 0)", 0).refused("score(80, 0)", -1).end();
        run("P10: one that is TAKEN BACK leaves no room").did(KITCHEN).times(80, "look(0, 0, 0)").did("back(0)",
                "back(79)").refused("look(0, 0, 0)", -6).due("count(3)", 80).due("count(4)", 2).end();
        run("P10: -1, -7, -3, -4, -6 in this order").did(KITCHEN, "kitchen(0, 0, 1, 1, 0)", "kin(1, 1, true)")
                .times(80, "look(0, 0, 0)").refused("look(2, 1, 1)", -1).refused("look(1, 5, -1)", -1)
                .refused("look(1, 1, 1)", -7).refused("look(1, 1, -1)", -7).refused("look(1, 1, 0)", -7)
                .refused("look(1, 0, 1)", -3).refused("look(1, 0, -1)", -4).refused("look(1, 0, 0)", -6).end();
    }

    private static void find() {
        String[] start = {KITCHEN, "code(0, 1, 0)", "look(0, 0, 0)"};
        run("P11: no such CODE").did(start).refused("find(-1, 1)", -1).refused("find(1, 1)", -1).due("find(0, 1)", 1)
                .end();
        run("P11: -3 there is no LOOK").did(KITCHEN, "code(0, 1, 0)").refused("find(0, 1)", -3).did("look(0, 0, 0)")
                .due("find(0, 1)", 1).end();
        run("P11: -3 it was TAKEN BACK").did(start).did("look(0, 0, 0)", "back(1)").refused("find(0, 1)", -3)
                .due("score(0, 0)", 0).did("look(0, 0, 0)").due("find(0, 1)", 1).end();
        run("P11: another one was TAKEN BACK").did(start).did("look(0, 0, 0)", "back(0)").due("find(0, 1)", 1).end();
        run("P11: so many times, 1 .. 9").did(start).refused("find(0, 0)", -4).refused("find(0, -1)", -4)
                .refused("find(0, 10)", -6).due("find(0, 1)", 1).due("find(0, 9)", 10).end();
        run("P11: 99 at most of one CODE, just so").did(start).times(10, "find(0, 9)").due("find(0, 9)", 99)
                .refused("find(0, 1)", -6).refused("find(0, 9)", -6).refused("find(0, 0)", -4).end();
        run("P11: 99 at most of one CODE, from 98").did(start).times(10, "find(0, 9)").due("find(0, 8)", 98)
                .refused("find(0, 2)", -6).due("find(0, 1)", 99).refused("find(0, 1)", -6).end();
        run("P11: 99 of one LOOK, of one CODE").did(start).did("code(1, 1, 0)").times(11, "find(0, 9)")
                .due("find(1, 9)", 9).did("look(0, 0, 0)").due("find(0, 9)", 9).end();
        run("P11: no wrap-around").did(start).times(11, "find(0, 9)").refused("find(0, MAX)", -6)
                .refused("find(0, MIN)", -4).end();
        run("P11: a CODE that is in force on its DAY").did(KITCHEN, "code(0, 1, 5)", "days(9)", "look(0, 0, 4)")
                .refused("find(0, 1)", -3).did("look(0, 0, 5)").due("find(0, 1)", 1).did("look(0, 0, 6)")
                .due("find(0, 1)", 1).did("look(0, 0, 4)").refused("find(0, 1)", -3).end();
        run("P11: a CODE told today is in force today").did(KITCHEN, "days(5)", "code(0, 1, 5)", "look(0, 0, 5)")
                .due("find(0, 1)", 1).did("look(0, 0, 4)").refused("find(0, 1)", -3).end();
        run("P11: to the LOOK of the greatest number only").did("code(0, 1, 0)", KITCHEN, "days(3)", "look(0, 0, 3)",
                "look(0, 0, 1)", "find(0, 4)").due("score(1, 0)", 4).due("score(0, 0)", 0).end();
        run("P11: a CODE that is TURNED is still in force").did(start).did("code(0, 2, 0)", "turn(0, 1, 0)")
                .due("find(0, 1)", 1).due("score(0, 0)", 2).due("find(1, 1)", 1).due("score(0, 0)", 4).end();
        run("P11: -1, -3, -4, -6 in this order").did(KITCHEN, "code(0, 1, 1)").refused("find(1, 0)", -1)
                .refused("find(1, 10)", -1).refused("find(0, 0)", -3).refused("find(0, 10)", -3).did("look(0, 0, 0)")
                .refused("find(0, 0)", -3).refused("find(0, 10)", -3).refused("find(1, 0)", -1).end();
        run("P11: -3 ahead of no room").did(start).times(11, "find(0, 9)").did("back(0)").refused("find(0, 1)", -3)
                .refused("find(0, 0)", -3).end();
    }

    private static void back() {
        run("P12: no such LOOK").did(KITCHEN).refused("back(0)", -1).did("look(0, 0, 0)").refused("back(-1)", -1)
                .refused("back(1)", -1).due("back(0)", 1).end();
        run("P12: told once").did(KITCHEN, "look(0, 0, 0)", "look(0, 0, 0)").due("back(0)", 1).refused("back(0)", -3)
                .did("days(1)").refused("back(0)", -3).due("back(1)", 1).refused("back(1)", -3).due("count(4)", 2).end();
        run("P12: the DAY on which it was told stays").did(KITCHEN, "table(0, 1, 1, 1, 1)", "look(0, 0, 0)", "days(5)",
                "back(0)", "days(5)").refused("back(0)", -3).due("star(0, 0, 4)", 5).due("star(0, 0, 5)", 0).end();
        Run all = run("P12: all 80").did(KITCHEN).times(80, "look(0, 0, 0)");
        for (int look = 0; look < 80; look++) all.due("back(" + look + ")", 1);
        all.due("count(4)", 80).refused("back(80)", -1).refused("back(79)", -3).end();
    }

    private static void score() {
        String[] start = {KITCHEN, "code(0, 1, 0)", "code(1, 20, 0)", "look(0, 0, 0)"};
        run("P13: no such LOOK").did(start).refused("score(-1, 0)", -1).refused("score(1, 0)", -1).end();
        run("P13: DAYS 0 .. 1500").did(start).refused("score(0, -1)", -4).refused("score(0, 1501)", -6)
                .due("score(0, 0)", 0).due("score(0, 1500)", 0).end();
        run("P13: -1, -4, -6 in this order").did(start).refused("score(1, -1)", -1).refused("score(1, 1501)", -1).end();
        run("SCORE by CODES of that DAY").did(start).did("find(0, 3)", "turn(0, 1, 100)").due("score(0, 99)", 3)
                .due("score(0, 100)", 60).due("score(0, 101)", 60).end();
        run("SCORE by GROUPS of the CODE for which it stands").did(start).did("find(0, 5)", "turn(0, 1, 100)",
                "most(0, 4)", "most(1, 99)").due("score(0, 99)", 4).due("score(0, 100)", 99).end();
        run("SCORE: two CODES that stand for one share its MOST").did(start).did("find(0, 2)", "find(1, 2)",
                "turn(0, 1, 100)").due("score(0, 99)", 2 + 40).due("score(0, 100)", 60).end();
        run("SCORE as of a DAY ahead of its own").did(KITCHEN, "days(9)", "code(0, 7, 9)", "look(0, 0, 9)",
                "find(0, 1)").due("score(0, 0)", 7).due("score(0, 9)", 7).end();
        run("SCORE: 99 times 50 points").did(KITCHEN, "code(4, 50, 0)", "most(4, 200)", "look(0, 0, 0)")
                .times(11, "find(0, 9)").due("score(0, 0)", 200).end();
    }

    public static void main(String[] args) {
        kitchen();
        hardAndKin();
        look();
        find();
        back();
        score();
        DUE.finish();
    }
}
