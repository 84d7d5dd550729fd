/** Boundary cases of promises 24 to 28 and of what "Terms" say of DOUBLES, HABITS, EVENED and SWAPS. */
public final class HabitsEdgesTest {
    private static final Due DUE = new Due();

    /** Code 0 is worth a point; kitchens 0 .. 2. */
    private static Run run(String sentence) {
        return new Run(DUE, sentence).did("code(0, 1, 0)", "kitchen(0, 0, 1, 0, 0)", "kitchen(0, 0, 1, 0, 0)",
                "kitchen(0, 0, 1, 0, 0)");
    }

    /** A look of DAY 0 with a score of 0 .. 9. */
    private static Run look(Run run, int kitchen, int inspector, int score) {
        run.did("look(" + kitchen + ", " + inspector + ", 0)");
        return score > 0 ? run.did("find(0, " + score + ")") : run;
    }

    /** One DOUBLE of the INSPECTORS 0 and 1 in kitchen 0. */
    private static Run pair(String sentence, int score0, int score1) {
        return look(look(run(sentence), 0, 0, score0), 0, 1, score1);
    }

    private static void doubles() {
        run("P24: nothing, and one LOOK").due("doubles()", 0).did("look(0, 0, 0)").due("doubles()", 0).end();
        run("P24: by two INSPECTORS").did("look(0, 0, 0)", "look(0, 0, 0)").due("doubles()", 0).did("look(0, 4, 0)")
                .due("doubles()", 2).end();
        run("P24: of one KITCHEN").did("look(0, 0, 0)", "look(1, 1, 0)").due("doubles()", 0).did("look(1, 0, 0)")
                .due("doubles()", 1).end();
        run("P24: on one DAY").did("days(1)", "look(0, 0, 0)", "look(0, 1, 1)").due("doubles()", 0).did("look(0, 1, 0)")
                .due("doubles()", 1).end();
        run("P24: KNOWN on two DAYS").did("look(0, 0, 0)", "days(9)", "look(0, 1, 0)").due("doubles()", 1).end();
        run("P24: both counting now").did("look(0, 0, 0)", "look(0, 1, 0)", "back(1)").due("doubles()", 0)
                .did("look(0, 1, 0)").due("doubles()", 1).did("back(0)").due("doubles()", 0).end();
        run("P24: each with each").did("look(0, 0, 0)", "look(0, 1, 0)", "look(0, 2, 0)", "look(0, 3, 0)",
                "look(0, 4, 0)").due("doubles()", 10).end();
        run("P24: 80 LOOKS").times(40, "look(0, 0, 0)").times(40, "look(0, 4, 0)").due("doubles()", 1600).end();
    }

    private static void habit() {
        pair("P25: INSPECTOR 0 .. 4", 2, 5).refused("habit(-1, 0)", -1).refused("habit(5, 0)", -1)
                .fraction("habit", "0", 0, 1).fraction("habit", "1", 3, 1).end();
        pair("P25: part 0, 1", 2, 5).refused("habit(1, -1)", -2).refused("habit(1, 2)", -2).refused("habit(1, MIN)", -2)
                .refused("habit(1, MAX)", -2).end();
        pair("P25: -3 it is in no DOUBLE", 2, 5).refused("habit(2, 0)", -3).refused("habit(2, 1)", -3)
                .refused("habit(4, 0)", -3).end();
        pair("P25: -3 its DOUBLE counts no more", 2, 5).did("back(0)").refused("habit(0, 0)", -3)
                .refused("habit(1, 1)", -3).end();
        pair("P25: -3 its DOUBLE counts no more, though it was told ahead of that", 2, 5).fraction("habit", "1", 3, 1)
                .did("back(1)").refused("habit(1, 0)", -3).refused("habit(0, 1)", -3).due("others()", 0).end();
        run("P25: -3 without a LOOK").refused("habit(0, 0)", -3).refused("habit(4, 1)", -3).end();
        pair("P25: -1, -2, -3 in this order", 2, 5).refused("habit(5, 2)", -1).refused("habit(-1, -1)", -1)
                .refused("habit(2, 2)", -2).refused("habit(2, -1)", -2).end();
        pair("P25: alike SCORES: 0 by 1", 5, 5).fraction("habit", "1", 0, 1).end();
        pair("P25: the part above is below 0", 9, 0).fraction("habit", "1", -9, 1).end();
        look(look(pair("P25: without a common divisor", 1, 2), 0, 1, 3), 0, 1, 5).fraction("habit", "1", 7, 3)
                .did("look(0, 1, 0)", "find(0, 2)").fraction("habit", "1", 2, 1).end();
    }

    private static void joinedSets() {
        look(look(look(look(run("the h of the lowest INSPECTOR of each joined set 0"), 0, 3, 4), 0, 4, 6), 1, 1, 9), 1, 2, 8)
                .fraction("habit", "3", 0, 1).fraction("habit", "4", 2, 1).fraction("habit", "1", 0, 1)
                .fraction("habit", "2", -1, 1).refused("habit(0, 0)", -3).end();
        look(look(look(look(run("also by way of others"), 0, 4, 4), 0, 2, 6), 1, 4, 9), 1, 0, 8)
                .fraction("habit", "0", 0, 1).fraction("habit", "4", 1, 1).fraction("habit", "2", 3, 1).end();
        Run chain = run("also by way of three others").did("kitchen(0, 0, 1, 0, 0)");
        look(look(look(look(chain, 0, 4, 1), 0, 3, 0), 1, 3, 1), 1, 2, 0);
        look(look(look(look(chain, 2, 2, 1), 2, 1, 0), 3, 1, 1), 3, 0, 0);
        for (int inspector = 0; inspector < 5; inspector++) chain.fraction("habit", "" + inspector, inspector, 1);
        chain.end();
        look(look(look(look(run("SCORES each as of its DAY"), 0, 0, 2), 0, 1, 5), 1, 0, 0), 1, 1, 0)
                .did("code(0, 50, 0)", "turn(0, 1, 1)", "days(2)").due("score(1, 2)", 60).fraction("habit", "1", 3, 2).end();
    }

    private static void evened() {
        pair("P26: no such LOOK", 2, 5).refused("evened(-1, 0)", -1).refused("evened(2, 0)", -1)
                .fraction("evened", "0", 2, 1).fraction("evened", "1", 2, 1).end();
        pair("P26: part 0, 1", 2, 5).refused("evened(0, -1)", -2).refused("evened(0, 2)", -2).end();
        pair("P26: -1, -2 in this order", 2, 5).refused("evened(2, 2)", -1).refused("evened(-1, -1)", -1).end();
        run("P26: without a LOOK").refused("evened(0, 0)", -1).refused("evened(0, 2)", -1).end();
        look(pair("P26: an INSPECTOR in no DOUBLE: h 0", 2, 5), 1, 4, 7).fraction("evened", "2", 7, 1).end();
        look(pair("P26: 0 by 1", 2, 5), 1, 1, 3).fraction("evened", "2", 0, 1).end();
        look(pair("P26: below 0", 2, 5), 1, 1, 0).fraction("evened", "2", -3, 1).end();
        look(look(pair("P26: a fraction", 0, 1), 0, 1, 0), 1, 1, 4).fraction("habit", "1", 1, 2)
                .fraction("evened", "1", 1, 2).fraction("evened", "2", -1, 2).fraction("evened", "3", 7, 2).end();
        pair("P26: of its own DAY", 2, 5).did("code(0, 9, 0)", "turn(0, 1, 1)", "days(1)").due("score(0, 1)", 18)
                .fraction("evened", "0", 2, 1).end();
        pair("P26: of a LOOK that was TAKEN BACK", 2, 5).did("back(1)").fraction("evened", "1", 5, 1).end();
    }

    private static void others() {
        run("P27: nothing").due("others()", 0).did("table(0, 1, 2, 3, 4)").due("others()", 0).end();
        look(pair("P27: of KITCHENS with a STAR now", 2, 5), 1, 1, 5).due("others()", 0).did("table(0, 3, 3, 3, 3)")
                .due("others()", 2).did("back(2)").due("others()", 1).end();
        look(look(look(run("P27: by LOOK 0"), 1, 1, 5), 0, 0, 2), 0, 1, 5).did("table(0, 3, 3, 3, 3)").due("others()", 2)
                .end();
        pair("P27: without a TABLE on its DAY there is no STAR", 2, 5).did("table(1, 3, 3, 3, 3)", "days(1)")
                .due("star(0, 1, 1)", 0).due("others()", 0).end();
        pair("P27: 2 for 5 is not below 2", 2, 5).did("table(0, 2, 2, 2, 2)").due("others()", 0).end();
        pair("P27: 2 for 5 is below 3", 2, 5).did("table(0, 3, 3, 3, 3)").due("others()", 1).end();
        pair("P27: 2 and 5 are below 6", 2, 5).did("table(0, 6, 6, 6, 6)").due("others()", 0).end();
        pair("P27: 2 for 5 is below 5, 5 is not", 2, 5).did("table(0, 0, 0, 0, 5)").due("others()", 1).end();
        Run half = look(look(look(pair("P27: truly below", 0, 1), 0, 1, 0), 1, 1, 4), 2, 0, 4);
        half.fraction("evened", "3", 7, 2).did("table(0, 4, 4, 4, 4)").due("others()", 1);
        half.did("table(0, 3, 3, 3, 3)").due("others()", 0).did("back(2)").fraction("evened", "3", 3, 1);
        half.due("others()", 0).did("table(0, 4, 4, 4, 4)").due("others()", 1).end();
        look(look(pair("P27: a half below 0 is below 0", 0, 1), 0, 1, 0), 1, 1, 0).fraction("evened", "3", -1, 2)
                .did("table(0, 0, 0, 0, 0)").due("others()", 2).end();
        look(look(pair("P27: a half above 0 is not", 1, 0), 0, 1, 1), 1, 1, 0).fraction("evened", "3", 1, 2)
                .did("table(0, 0, 0, 0, 0)").due("others()", 0).did("table(0, 1, 1, 1, 1)").due("others()", 0).end();
        look(pair("P27: an INSPECTOR in no DOUBLE makes none other", 2, 5), 1, 2, 5).did("back(1)",
                "table(0, 3, 3, 3, 3)").due("others()", 0).end();
    }

    private static void swaps(Run run, int seed, int... seats) {
        for (int inspector = 0; inspector < seats.length; inspector++) {
            run.due("swap(" + seed + ", " + seats.length + ", " + inspector + ")", seats[inspector]);
        }
    }

    /** The seats were dealt by hand: 0 goes by 101, 3838, 2009, 4385 and 9999 by 9812, 2893, 7072, 1583. */
    private static void swap() {
        run("P28: SEED 0 .. 9999").refused("swap(-1, 2, 0)", -4).refused("swap(10000, 2, 0)", -6)
                .due("swap(0, 2, 0)", 0).due("swap(9999, 2, 0)", 1).end();
        run("P28: n 2 .. 5").refused("swap(0, 1, 0)", -4).refused("swap(0, 6, 0)", -6).due("swap(0, 2, 1)", 1)
                .due("swap(0, 5, 4)", 1).end();
        run("P28: -1 none of n").refused("swap(0, 2, -1)", -1).refused("swap(0, 2, 2)", -1).refused("swap(0, 5, 5)", -1)
                .refused("swap(0, 4, 4)", -1).due("swap(0, 3, 2)", 2).end();
        run("P28: -4, -6, -1 in this order").refused("swap(-1, 6, 9)", -4).refused("swap(10000, 1, 9)", -4)
                .refused("swap(10000, 2, 9)", -6).refused("swap(0, 6, 9)", -6).refused("swap(0, 1, 1)", -4).end();
        Run seats = run("SWAPS");
        swaps(seats, 0, 0, 1);
        swaps(seats, 9999, 1, 0);
        swaps(seats, 0, 0, 4, 3, 2, 1);
        swaps(seats, 9999, 0, 4, 3, 1, 2);
        // 101 by 3 leaves 2, 3838 is even
        swaps(seats, 0, 1, 0, 2);
        seats.end();
    }

    public static void main(String[] args) {
        doubles();
        habit();
        joinedSets();
        evened();
        others();
        swap();
        DUE.finish();
    }
}
