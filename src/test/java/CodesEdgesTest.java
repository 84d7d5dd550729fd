/** Boundary cases of promises 1 to 6 and of what "Terms" say of DAYS, CODES, TURNED and MOST. */
public final class CodesEdgesTest {
    private static final Due DUE = new Due();

    private static Run run(String sentence) {
        return new Run(DUE, sentence);
    }

    private static void newObject() {
        Run run = run("P1: DAY 0; nothing");
        for (int what = 0; what <= 7; what++) run.due("count(" + what + ")", 0);
        run.due("falses()", 0).due("doubles()", 0).due("others()", 0).due("chance()", -9).due("helped()", 0);
        run.due("rounds(1)", 0).due("rounds(2)", 0).due("rounds(3)", 0);
        run.end();
        Run first = run("P1: the first number of each is 0");
        first.due("code(0, 0, 0)", 0).due("kitchen(0, 0, 1, 0, 0)", 0).due("look(0, 0, 0)", 0);
        first.due("table(0, 0, 0, 0, 0)", 0).due("complaint(0, 0, 0, 0)", 0).end();
    }

    private static void calls() {
        Run run = run("the 512th call still answers");
        run.times(504, "days(1)").due("days(1)", 505).end();
        Run full = run("all rooms full in 512 calls");
        full.times(40, "code(0, 1, 0)").times(20, "kitchen(0, 0, 1, 0, 1)").times(80, "look(0, 0, 0)");
        full.times(10, "table(0, 0, 0, 0, 0)").times(20, "complaint(0, 0, 0, 0)").times(8, "shut(19, 0, 0)");
        int[] due = {0, 40, 20, 80, 0, 10, 20, 0};
        for (int what = 0; what <= 7; what++) full.due("count(" + what + ")", due[what]);
        full.refused("code(0, 1, 0)", -6).refused("kitchen(0, 0, 1, 0, 1)", -6).refused("look(0, 0, 0)", -6);
        full.refused("table(0, 0, 0, 0, 0)", -6).refused("complaint(0, 0, 0, 0)", -6).refused("shut(19, 0, 0)", -6);
        for (int what = 0; what <= 7; what++) full.due("count(" + what + ")", due[what]);
        full.end();
    }

    private static void days() {
        run("P2: -4 below 1").refused("days(0)", -4).refused("days(-1)", -4).refused("days(MIN)", -4)
                .due("days(1)", 1).due("count(0)", 1).end();
        run("P2: DAYS 1500 at most, at once").refused("days(1501)", -6).due("days(1500)", 1500).end();
        run("P2: DAYS 1500 at most, by and by").did("days(1498)").refused("days(3)", -6).due("days(1)", 1499)
                .refused("days(2)", -6).due("days(1)", 1500).due("count(0)", 1500).end();
        run("P2: on the last DAY none passes").did("days(1500)").refused("days(1)", -6).refused("days(0)", -4)
                .refused("days(1500)", -6).due("count(0)", 1500).end();
        run("P2: no wrap-around").did("days(1500)").refused("days(MAX)", -6).refused("days(2147482148)", -6)
                .refused("days(2147482147)", -6).refused("days(MIN)", -4).end();
    }

    private static void code() {
        run("P3: GROUP 0 .. 4").refused("code(-1, 0, 0)", -1).refused("code(5, 0, 0)", -1)
                .due("code(0, 0, 0)", 0).due("code(4, 0, 0)", 1).end();
        run("P3: POINTS 0 .. 50").refused("code(0, -1, 0)", -4).refused("code(0, 51, 0)", -6)
                .due("code(0, 0, 0)", 0).due("code(0, 50, 0)", 1).end();
        run("P3: from a DAY on, now or later").did("days(7)").refused("code(0, 0, 6)", -4)
                .refused("code(0, 0, 0)", -4).due("code(0, 0, 7)", 0).due("code(0, 0, 8)", 1).end();
        run("P3: -6 DAY above 1500").refused("code(0, 0, 1501)", -6).due("code(0, 0, 1500)", 0).end();
        run("P3: on the last DAY").did("days(1500)").refused("code(0, 0, 1499)", -4).due("code(0, 0, 1500)", 0)
                .refused("code(0, 0, 1501)", -6).end();
        run("P3: 40 at most").times(39, "code(0, 0, 0)").due("code(0, 0, 0)", 39).refused("code(0, 0, 0)", -6)
                .due("stands(39, 0)", 39).refused("stands(40, 0)", -1).due("count(1)", 40).end();
        run("P3: -1, -4, -6 in this order").times(40, "code(0, 0, 0)").refused("code(5, -1, -1)", -1)
                .refused("code(5, 51, 1501)", -1).refused("code(0, -1, 1501)", -4).refused("code(0, 51, -1)", -4)
                .refused("code(0, 51, 0)", -6).end();
        run("POINTS 0 and 50 are what a finding is worth").did("code(0, 0, 0)", "code(0, 50, 0)",
                "kitchen(0, 0, 1, 0, 0)", "look(0, 0, 0)", "find(0, 9)").due("score(0, 0)", 0)
                .did("find(1, 1)").due("score(0, 0)", 50).end();
    }

    private static void turn() {
        String[] three = {"code(0, 1, 0)", "code(0, 2, 0)", "code(0, 3, 0)"};
        run("P4: no such CODE").did(three).refused("turn(3, 2, 0)", -1).refused("turn(-1, 2, 0)", -1)
                .refused("turn(0, 3, 0)", -1).refused("turn(0, -1, 0)", -1).due("turn(0, 2, 0)", 1).end();
        run("P4: into one of a greater number").did(three).refused("turn(1, 1, 0)", -3).refused("turn(1, 0, 0)", -3)
                .refused("turn(2, 2, 0)", -3).due("turn(1, 2, 0)", 1).end();
        run("P4: told once").did(three).due("turn(0, 1, 100)", 1).refused("turn(0, 1, 100)", -3)
                .refused("turn(0, 2, 0)", -3).refused("turn(0, 2, 1500)", -3).due("stands(0, 99)", 0)
                .due("stands(0, 100)", 1).end();
        run("P4: told once, even when its DAY is over").did(three).did("turn(0, 1, 0)", "days(50)")
                .refused("turn(0, 2, 50)", -3).due("stands(0, 50)", 1).end();
        run("P4: -4 DAY ahead of now").did(three).did("days(9)").refused("turn(0, 1, 8)", -4)
                .refused("turn(0, 1, 0)", -4).refused("turn(0, 1, -1)", -4).due("turn(0, 1, 9)", 1)
                .due("stands(0, 8)", 0).due("stands(0, 9)", 1).end();
        run("P4: -6 DAY above 1500").did(three).refused("turn(0, 1, 1501)", -6).refused("turn(0, 1, MAX)", -6)
                .due("turn(0, 1, 1500)", 1).due("stands(0, 1499)", 0).due("stands(0, 1500)", 1).end();
        run("P4: -1, -3, -4, -6 in this order").did(three).did("days(9)", "turn(0, 1, 9)")
                .refused("turn(0, 3, 8)", -1).refused("turn(3, 0, 1501)", -1).refused("turn(0, 2, 8)", -3)
                .refused("turn(0, 2, 1501)", -3).refused("turn(2, 1, 8)", -3).refused("turn(2, 1, 1501)", -3).end();
    }

    private static void stands() {
        run("P5: DAYS 0 .. 1500").did("code(0, 1, 0)").refused("stands(0, -1)", -4).refused("stands(0, 1501)", -6)
                .due("stands(0, 0)", 0).due("stands(0, 1500)", 0).end();
        run("P5: -1, -4, -6 in this order").did("code(0, 1, 0)").refused("stands(1, -1)", -1)
                .refused("stands(1, 1501)", -1).refused("stands(-1, -1)", -1).end();
        run("on DAYS not ahead of that it stands for that one").did("code(0, 1, 0)", "code(0, 1, 0)",
                "turn(0, 1, 10)").due("stands(0, 9)", 0).due("stands(0, 10)", 1).due("stands(0, 11)", 1)
                .due("stands(1, 9)", 1).due("stands(1, 10)", 1).end();
        run("and this one for what it is turned into by then").did("code(0, 1, 0)", "code(0, 1, 0)",
                "code(0, 1, 0)", "turn(0, 1, 10)", "turn(1, 2, 11)").due("stands(0, 9)", 0).due("stands(0, 10)", 1)
                .due("stands(0, 11)", 2).end();
        run("one that is turned earlier waits for the one ahead of it").did("code(0, 1, 0)", "code(0, 1, 0)",
                "code(0, 1, 0)", "turn(0, 1, 10)", "turn(1, 2, 4)").due("stands(0, 4)", 0).due("stands(1, 3)", 1)
                .due("stands(1, 4)", 2).due("stands(0, 9)", 0).due("stands(0, 10)", 2).end();
        run("it stands for one that is not yet in force, too").did("code(0, 1, 0)", "code(0, 1, 100)",
                "turn(0, 1, 5)").due("stands(0, 4)", 0).due("stands(0, 5)", 1).end();
        run("a CODE stands for itself ahead of its own DAY").did("code(0, 1, 100)").due("stands(0, 0)", 0).end();
        Run longest = run("the longest chain").times(40, "code(0, 1, 0)");
        for (int code = 0; code < 39; code++) longest.did("turn(" + code + ", " + (code + 1) + ", 7)");
        longest.due("stands(0, 6)", 0).due("stands(0, 7)", 39).due("stands(38, 7)", 39).due("stands(39, 7)", 39);
        longest.refused("turn(39, 39, 7)", -3).end();
    }

    private static void most() {
        run("P6: GROUP 0 .. 4").refused("most(-1, 0)", -1).refused("most(5, 0)", -1).due("most(0, 1)", 60)
                .due("most(4, 1)", 60).end();
        run("P6: MOST 0 .. 200; 60 at first").refused("most(2, -1)", -4).refused("most(2, 201)", -6)
                .due("most(2, 0)", 60).refused("most(2, -1)", -4).due("most(2, 200)", 0).refused("most(2, 201)", -6)
                .due("most(2, 60)", 200).due("most(2, 60)", 60).end();
        run("P6: -1, -4, -6 in this order").refused("most(5, -1)", -1).refused("most(5, 201)", -1)
                .refused("most(MAX, MAX)", -1).refused("most(MIN, MIN)", -1).end();
        String[] look = {"code(3, 10, 0)", "kitchen(0, 0, 1, 0, 0)", "look(0, 0, 0)", "find(0, 6)"};
        run("MOST at most: just as much").did(look).due("score(0, 0)", 60).did("most(3, 61)").due("score(0, 0)", 60)
                .did("most(3, 59)").due("score(0, 0)", 59).did("most(3, 0)").due("score(0, 0)", 0).end();
        run("MOST is of one GROUP").did(look).did("most(2, 0)", "most(4, 0)").due("score(0, 0)", 60).end();
        run("MOST 200: the greatest SCORE is 1000").did("most(0, 200)", "most(1, 200)", "most(2, 200)",
                "most(3, 200)", "most(4, 200)", "code(0, 50, 0)", "code(1, 50, 0)", "code(2, 50, 0)",
                "code(3, 50, 0)", "code(4, 50, 0)", "kitchen(0, 0, 1, 0, 0)", "look(0, 0, 0)", "find(0, 4)",
                "find(1, 5)", "find(2, 9)", "find(3, 4)", "find(4, 3)").due("score(0, 0)", 950)
                .did("find(4, 1)").due("score(0, 0)", 1000).did("find(4, 9)").due("score(0, 0)", 1000).end();
    }

    public static void main(String[] args) {
        newObject();
        calls();
        days();
        code();
        turn();
        stands();
        most();
        DUE.finish();
    }
}
