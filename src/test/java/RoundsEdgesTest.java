/** Boundary cases of promises 21 to 23 and of what "Terms" say of the ROUNDS of a week. */
public final class RoundsEdgesTest {
    private static final Due DUE = new Due();

    private static Run run(String sentence) {
        return new Run(DUE, sentence);
    }

    /** Kitchens of RISK 34, each of an owner of its own, without a look: DUE is 0. */
    private static Run alike(String sentence, int kitchens) {
        Run run = run(sentence);
        for (int kitchen = 0; kitchen < kitchens; kitchen++) run.did("kitchen(0, 0, 1, " + kitchen + ", 0)");
        return run;
    }

    private static void places(Run run, int n, int[] days, int[] hands) {
        for (int kitchen = 0; kitchen < days.length; kitchen++) {
            run.due("roundOf(" + n + ", " + kitchen + ", 0)", days[kitchen]);
            run.due("roundOf(" + n + ", " + kitchen + ", 1)", hands[kitchen]);
        }
    }

    private static void capacity() {
        run("P21: CAPACITY 1 .. 9; 2 at first").refused("capacity(0)", -4).refused("capacity(10)", -6)
                .due("capacity(1)", 2).refused("capacity(0)", -4).due("capacity(9)", 1).refused("capacity(10)", -6)
                .due("capacity(9)", 9).end();
        run("P21: far beyond").refused("capacity(MIN)", -4).refused("capacity(MAX)", -6).end();
    }

    private static void refusals() {
        alike("P22: n 1 .. 3", 1).refused("rounds(0)", -4).refused("rounds(4)", -6).refused("rounds(MIN)", -4)
                .refused("rounds(MAX)", -6).due("rounds(1)", 0).due("rounds(3)", 0).end();
        run("P22: without a KITCHEN").due("rounds(1)", 0).due("rounds(3)", 0).did("days(1493)").due("rounds(2)", 0).end();
        alike("P22: -6 now and 7 is above 1500", 1).did("days(1493)").due("roundOf(1, 0, 0)", 1493)
                .due("roundOf(1, 0, 1)", 1).did("days(1)").refused("rounds(1)", -6).refused("rounds(3)", -6)
                .refused("rounds(0)", -4).refused("rounds(4)", -6).end();
        run("P22: -6 now and 7 is above 1500, without a KITCHEN").did("days(1494)").refused("rounds(1)", -6).end();
        alike("P23: no such KITCHEN", 1).refused("roundOf(1, -1, 0)", -1).refused("roundOf(1, 1, 0)", -1)
                .due("roundOf(1, 0, 0)", 0).end();
        alike("P23: what 0, 1", 1).refused("roundOf(1, 0, -1)", -2).refused("roundOf(1, 0, 2)", -2)
                .due("roundOf(1, 0, 1)", 1).end();
        alike("P23: n 1 .. 3", 1).refused("roundOf(0, 0, 0)", -4).refused("roundOf(4, 0, 0)", -6)
                .due("roundOf(3, 0, 0)", 0).end();
        alike("P23: now and 7 is above 1500", 1).did("days(1494)").refused("roundOf(1, 0, 0)", -6)
                .refused("roundOf(3, 0, 1)", -6).end();
        alike("P23: -1, -2, -4, -6 in this order", 1).did("days(1494)").refused("roundOf(0, 1, 2)", -1)
                .refused("roundOf(4, 1, 0)", -1).refused("roundOf(0, 0, 2)", -2).refused("roundOf(4, 0, 2)", -2)
                .refused("roundOf(0, 0, 0)", -4).end();
    }

    /** RISK 20 and a LOOK of DAY 0: DUE is 20. */
    private static Run dueAt20(String sentence) {
        return run(sentence).did("kitchen(0, 0, 1, 0, 0)", "base(0, 20)", "table(0, 1, 1, 1, 1)", "look(0, 0, 0)")
                .due("risk(0, 1)", 20);
    }

    private static void dueAhead() {
        dueAt20("DUE just now and 7: not among these").did("days(13)", "kin(0, 0, true)").due("rounds(1)", 0)
                .due("roundOf(1, 0, 0)", -9).due("roundOf(1, 0, 1)", 0).due("roundOf(2, 0, 0)", -9).end();
        dueAt20("DUE a DAY ahead of now and 7: among these").did("days(14)").due("rounds(1)", 0)
                .due("roundOf(1, 0, 0)", 14).due("roundOf(1, 0, 1)", 1).did("kin(0, 0, true)")
                .due("rounds(1)", 2 * 20).due("roundOf(1, 0, 0)", -9).due("roundOf(1, 0, 1)", 0).end();
        dueAt20("COST 0 on all DAYS: the earliest").did("days(16)").due("delay(0, 20)", 0).due("rounds(1)", 0)
                .due("roundOf(1, 0, 0)", 16).end();
        dueAt20("COST 0 on the first DAY only").did("days(20)").due("rounds(1)", 0).did("days(1)").due("rounds(1)", 20)
                .due("roundOf(1, 0, 0)", 21).end();
        run("a COST of 1 at now and 7: among these").did("kitchen(0, 0, 1, 0, 0)", "base(0, 1)", "table(0, 1, 1, 1, 1)",
                "look(0, 0, 0)", "days(393)").due("delay(0, 400)", 0).due("roundOf(1, 0, 0)", -9).did("days(1)")
                .due("delay(0, 401)", 1).due("roundOf(1, 0, 0)", 394).due("rounds(1)", 0).did("kin(0, 0, true)")
                .due("rounds(1)", 2).end();
        alike("not in this week: COST as at now and 7, twice", 1).did("kin(0, 0, true)").due("rounds(1)", 2 * 7 * 34)
                .did("days(22)").due("rounds(1)", 2 * 29 * 34).did("days(1)").due("rounds(1)", 2 * (30 * 34 + 3 * 34))
                .end();
        long cost = 34 * 1500;
        for (int tenth = 0; tenth < 50; tenth++) cost += cost / 10;
        alike("the last week that can be asked", 1).did("kin(0, 0, true)", "days(1493)").due("rounds(1)", 2 * cost).end();
    }

    private static void sixAtMost() {
        for (int kitchens = 5; kitchens <= 8; kitchens++) {
            Run run = alike("KITCHENS, 6 at most: " + kitchens, kitchens);
            for (int owner = 0; owner < kitchens; owner++) run.did("kin(0, " + owner + ", true)");
            run.due("rounds(1)", 14 * 34 * Math.min(6, kitchens)).end();
        }
        Run ties = alike("of several the least numbers", 8).did("capacity(9)");
        int[] days = {0, 0, 0, 0, 0, 0, -9, -9};
        int[] hands = {1, 1, 1, 1, 1, 1, 0, 0};
        places(ties, 1, days, hands);
        ties.end();
        Run costs = alike("those of the greatest COST", 5).did("capacity(9)", "kitchen(0, 0, 50, 5, 0)",
                "kitchen(0, 0, 50, 6, 0)", "kitchen(0, 0, 50, 7, 0)");
        places(costs, 1, new int[] {0, 0, 0, -9, -9, 0, 0, 0}, new int[] {1, 1, 1, 0, 0, 1, 1, 1});
        costs.end();
        Run all = run("6 of all 20").did("capacity(9)").times(14, "kitchen(0, 0, 1, 0, 0)").times(6,
                "kitchen(0, 0, 50, 0, 0)").due("rounds(1)", 0);
        for (int kitchen = 0; kitchen < 20; kitchen++) all.due("roundOf(1, " + kitchen + ", 0)", kitchen < 14 ? -9 : 0);
        all.end();
    }

    private static void room() {
        Run two = alike("CAPACITY LOOKS a DAY: 2 at first", 3).due("rounds(1)", 34);
        places(two, 1, new int[] {0, 0, 1}, new int[] {1, 1, 1});
        two.did("capacity(3)").due("rounds(1)", 0).did("capacity(1)").due("rounds(1)", 34 * 3).end();
        Run five = alike("CAPACITY 5 and 6 of six", 6).did("capacity(5)").due("rounds(1)", 34);
        five.due("roundOf(1, 5, 0)", 1).did("capacity(6)").due("rounds(1)", 0).due("roundOf(1, 5, 0)", 0).end();
        Run days = alike("DAYS now .. now and 4, no more", 6).did("capacity(1)", "days(3)");
        days.due("rounds(1)", 34 * (3 + 4 + 5 + 6 + 7) + 2 * 34 * 10);
        places(days, 1, new int[] {3, 4, 5, 6, 7, -9}, new int[] {1, 1, 1, 1, 1, 0});
        days.end();
        Run enough = alike("five KITCHENS fill the week", 5).did("capacity(1)").due("rounds(1)", 34 * 10);
        places(enough, 1, new int[] {0, 1, 2, 3, 4}, new int[] {1, 1, 1, 1, 1});
        enough.end();
        Run three = alike("three INSPECTORS", 6).did("capacity(1)").due("rounds(3)", 34 * 3);
        places(three, 3, new int[] {0, 0, 0, 1, 1, 1}, new int[] {1, 2, 4, 1, 2, 4});
        three.end();
    }

    private static void hardOnes() {
        alike("HARD ones by two: never by one", 1).did("hard(0, true)").due("rounds(1)", 14 * 34)
                .due("roundOf(1, 0, 0)", -9).due("roundOf(1, 0, 1)", 0).due("rounds(2)", 0).due("roundOf(2, 0, 0)", 0)
                .due("roundOf(2, 0, 1)", 3).did("hard(0, false)").due("rounds(1)", 0).due("roundOf(2, 0, 1)", 1).end();
        alike("HARD: one of two is KIN", 1).did("hard(0, true)", "kin(1, 0, true)").due("rounds(2)", 14 * 34)
                .due("roundOf(2, 0, 0)", -9).due("rounds(3)", 0).due("roundOf(3, 0, 1)", 5).did("kin(0, 0, true)")
                .due("rounds(3)", 14 * 34).due("roundOf(3, 0, 1)", 0).end();
        alike("HARD: the last two of three", 1).did("hard(0, true)", "kin(0, 0, true)").due("roundOf(3, 0, 1)", 6).end();
        Run room = alike("HARD ones take room of two", 2).did("capacity(1)", "hard(0, true)").due("rounds(2)", 34);
        places(room, 2, new int[] {0, 1}, new int[] {3, 1});
        room.due("rounds(3)", 0);
        places(room, 3, new int[] {0, 0}, new int[] {3, 4});
        room.did("hard(1, true)").due("rounds(3)", 34);
        places(room, 3, new int[] {0, 1}, new int[] {3, 3});
        room.did("capacity(2)").due("rounds(2)", 0);
        places(room, 2, new int[] {0, 0}, new int[] {3, 3});
        room.end();
    }

    private static void kin() {
        alike("KIN: none may", 1).did("kin(0, 0, true)", "kin(1, 0, true)").due("rounds(2)", 14 * 34).due("rounds(3)", 0)
                .due("roundOf(3, 0, 1)", 4).did("kin(2, 0, true)").due("rounds(3)", 14 * 34).end();
        alike("KIN of INSPECTORS beyond n bars nothing", 1).did("kin(1, 0, true)", "kin(2, 0, true)", "kin(3, 0, true)",
                "kin(4, 0, true)").due("rounds(1)", 0).due("rounds(3)", 0).due("roundOf(3, 0, 1)", 1).end();
        Run last = alike("KIN of the last OWNER", 1).did("kitchen(0, 0, 1, 9, 0)", "kin(0, 9, true)");
        last.due("rounds(1)", 14 * 34);
        places(last, 1, new int[] {0, -9}, new int[] {1, 0});
        last.end();
        Run among = alike("one that none may look at keeps its place among six", 7).did("capacity(9)", "kin(0, 0, true)");
        among.due("rounds(1)", 14 * 34);
        places(among, 1, new int[] {-9, 0, 0, 0, 0, 0, -9}, new int[] {0, 1, 1, 1, 1, 1, 0});
        among.end();
    }

    private static void ties() {
        Run none = alike("none last: the last KITCHEN is left out", 6).did("capacity(1)");
        places(none, 1, new int[] {0, 1, 2, 3, 4, -9}, new int[] {1, 1, 1, 1, 1, 0});
        none.end();
        Run hands = alike("then the lowest INSPECTORS", 2).did("capacity(1)", "kin(0, 1, true)").due("rounds(2)", 0);
        places(hands, 2, new int[] {0, 0}, new int[] {1, 2});
        hands.end();
        Run wait = alike("the first has the earliest DAY, though it takes the only one of the next", 2)
                .did("capacity(1)", "kin(1, 0, true)", "kin(1, 1, true)").due("rounds(2)", 34);
        places(wait, 2, new int[] {0, 1}, new int[] {1, 1});
        wait.end();
        Run others = alike("the least COST is ahead of the lowest INSPECTORS", 2).did("capacity(1)", "kin(1, 1, true)")
                .due("rounds(2)", 0);
        places(others, 2, new int[] {0, 0}, new int[] {2, 1});
        others.end();
        Run dear = run("the least COST is ahead of the earliest DAY").did("capacity(1)", "kitchen(0, 0, 1, 0, 0)",
                "kitchen(0, 0, 50, 1, 0)").due("rounds(1)", 34);
        places(dear, 1, new int[] {1, 0}, new int[] {1, 1});
        dear.end();
        Run bits = alike("of two: as bits", 3).did("hard(0, true)", "hard(1, true)", "hard(2, true)")
                .due("rounds(3)", 0);
        places(bits, 3, new int[] {0, 0, 0}, new int[] {3, 5, 6});
        bits.end();
    }

    public static void main(String[] args) {
        capacity();
        refusals();
        dueAhead();
        sixAtMost();
        room();
        hardOnes();
        kin();
        ties();
        DUE.finish();
    }
}
