/** Boundary cases of promises 33 to 38 and of what "Terms" say of EFFECT, CHANCE, HELPED and REFUSALS. */
public final class HelpedEdgesTest {
    private static final Due DUE = new Due();

    private static Run run(String sentence) {
        return new Run(DUE, sentence);
    }

    private static Run cases(Run run, int street, int from, int to, int n) {
        for (int month = from; month <= to; month++) run.did("cases(" + street + ", " + month + ", " + n + ")");
        return run;
    }

    private static Run began(Run run, int... months) {
        for (int street = 0; street < months.length; street++) run.did("began(" + street + ", " + months[street] + ")");
        return run;
    }

    private static void began() {
        run("P33: STREET 0 .. 5").refused("began(-1, 0)", -1).refused("began(6, 0)", -1).due("began(0, 0)", 12)
                .due("began(5, 0)", 12).end();
        run("P33: MONTHS 0 .. 12; 12 at first").refused("began(3, -1)", -4).refused("began(3, 13)", -6)
                .due("began(3, 0)", 12).refused("began(3, -1)", -4).due("began(3, 12)", 0).refused("began(3, 13)", -6)
                .due("began(3, 11)", 12).due("began(3, 11)", 11).end();
        run("P33: -1, -4, -6 in this order").refused("began(6, -1)", -1).refused("began(6, 13)", -1)
                .refused("began(-1, MIN)", -1).end();
    }

    private static void cases() {
        run("P34: STREET 0 .. 5").refused("cases(-1, 0, 0)", -1).refused("cases(6, 0, 0)", -1).due("cases(0, 0, 1)", 0)
                .due("cases(5, 0, 1)", 0).end();
        run("P34: MONTHS 0 .. 11").refused("cases(0, -1, 0)", -1).refused("cases(0, 12, 0)", -1).due("cases(0, 0, 1)", 0)
                .due("cases(0, 11, 1)", 0).end();
        run("P34: CASES 0 .. 999; 0 at first").refused("cases(0, 0, -1)", -4).refused("cases(0, 0, 1000)", -6)
                .due("cases(0, 0, 999)", 0).refused("cases(0, 0, 1000)", -6).due("cases(0, 0, 0)", 999)
                .refused("cases(0, 0, -1)", -4).due("cases(0, 0, 0)", 0).end();
        run("P34: -1, -4, -6 in this order").refused("cases(6, 0, -1)", -1).refused("cases(0, 12, 1000)", -1)
                .refused("cases(6, 12, -1)", -1).refused("cases(0, -1, -1)", -1).end();
        Run all = run("P34: each STREET in each MONTH");
        for (int way = 0; way < 72; way++) all.due("cases(" + way / 12 + ", " + way % 12 + ", " + (way + 1) + ")", 0);
        for (int way = 0; way < 72; way++) all.due("cases(" + way / 12 + ", " + way % 12 + ", 0)", way + 1);
        all.end();
    }

    private static void effectOrNone() {
        run("P35: part 0, 1").refused("effect(-1)", -2).refused("effect(2)", -2).did("began(0, 5)")
                .refused("effect(-1)", -2).refused("effect(2)", -2).fraction("effect", "", 0, 1).end();
        run("P35: -2, -3 in this order").refused("effect(MIN)", -2).refused("effect(MAX)", -2).refused("effect(0)", -3)
                .refused("effect(1)", -3).end();
        run("EFFECT: none if no STREET so began").refused("effect(0)", -3).due("chance()", -9).due("helped()", 0).end();
        began(run("EFFECT: MONTH 0 is not above 0"), 0).refused("effect(0)", -3).due("chance()", -9).due("helped()", 0)
                .did("began(0, 1)").fraction("effect", "", 0, 1).due("chance()", 720).end();
        began(run("EFFECT: MONTH 12 is not below 12"), 11).fraction("effect", "", 0, 1).due("chance()", 720)
                .did("began(0, 12)").refused("effect(0)", -3).due("chance()", -9).end();
        began(run("EFFECT: none if none never did"), 1, 2, 3, 4, 5, 6).refused("effect(0)", -3).due("chance()", -9)
                .due("helped()", 0).did("began(5, 12)").fraction("effect", "", 0, 1).due("chance()", 720).end();
        began(run("EFFECT: MONTH 0 is not never"), 1, 2, 3, 4, 5, 0).refused("effect(0)", -3).due("chance()", -9).end();
        began(run("EFFECT: all at MONTH 0"), 0, 0, 0, 0, 0, 0).refused("effect(1)", -3).due("chance()", -9).end();
        began(run("EFFECT: one began, one never, four at MONTH 0"), 0, 0, 6, 0, 0, 12).did("cases(0, 0, 999)",
                "cases(2, 0, 6)").fraction("effect", "", -1, 1).end();
    }

    private static void effect() {
        began(run("EFFECT at MONTH 1"), 1).did("cases(0, 0, 22)").fraction("effect", "", -22, 1).did("cases(0, 1, 11)")
                .fraction("effect", "", -21, 1).did("cases(0, 11, 1)").fraction("effect", "", -21 * 11 + 1, 11).end();
        began(run("EFFECT at MONTH 11"), 11).did("cases(0, 11, 5)").fraction("effect", "", 5, 1).did("cases(0, 10, 11)")
                .fraction("effect", "", 4, 1).did("cases(0, 0, 1)").fraction("effect", "", 4 * 11 - 1, 11).end();
        began(run("EFFECT: STREETS that never began by how many there are"), 6).did("cases(1, 6, 6)")
                .fraction("effect", "", -1, 5).did("began(2, 0)").fraction("effect", "", -1, 4).did("began(3, 0)",
                "began(4, 0)", "began(5, 0)").fraction("effect", "", -1, 1).end();
        began(run("EFFECT: STREET 0 alone never began"), 12, 6, 6, 6, 6, 6).did("cases(0, 6, 6)")
                .fraction("effect", "", -1, 1).did("began(0, 6)").refused("effect(0)", -3).end();
        began(run("EFFECT: the mean over these STREETS"), 6, 6).did("cases(0, 6, 6)").fraction("effect", "", 1, 2)
                .did("began(2, 6)").fraction("effect", "", 1, 3).did("began(3, 0)").fraction("effect", "", 1, 3).end();
        Run greatest = began(run("EFFECT: the greatest"), 6);
        cases(greatest, 0, 6, 11, 999);
        for (int street = 1; street < 6; street++) cases(greatest, street, 0, 5, 999);
        greatest.fraction("effect", "", 1998, 1).due("chance()", 720).due("helped()", 0).end();
        Run least = began(run("EFFECT: the least"), 6);
        cases(least, 0, 0, 5, 999);
        for (int street = 1; street < 6; street++) cases(least, street, 6, 11, 999);
        least.fraction("effect", "", -1998, 1).due("chance()", 120).due("helped()", 0).end();
    }

    private static void chance() {
        int[] months = {2, 4, 6, 8, 10};
        Run one = began(run("CHANCE: one way of 720"), months);
        for (int street = 0; street < 5; street++) cases(one, street, 0, months[street] - 1, 60);
        one.fraction("effect", "", -60, 1).due("chance()", 1).due("helped()", 1).end();
        Run all = began(run("CHANCE: all ways"), months);
        for (int street = 0; street < 5; street++) cases(all, street, months[street], 11, 60);
        all.fraction("effect", "", 60, 1).due("chance()", 720).due("helped()", 0).end();
        began(run("CHANCE: alike ways counted each"), 6).due("chance()", 720).did("cases(0, 0, 1)").due("chance()", 120)
                .did("began(1, 6)", "cases(1, 0, 1)").due("chance()", 48).end();
        Run few = run("HELPED: 36 or less");
        for (int street = 0; street < 3; street++) cases(few.did("began(" + street + ", 6)"), street, 0, 5, 10);
        few.fraction("effect", "", -10, 1).due("chance()", 36).due("helped()", 1).end();
        Run more = began(run("HELPED: 37 are too many"), 7, 0, 1, 4, 9, 12).did("cases(0, 2, 6)", "cases(0, 3, 6)",
                "cases(0, 5, 2)", "cases(1, 10, 2)", "cases(2, 2, 2)", "cases(4, 1, 6)", "cases(5, 0, 1)", "cases(5, 9, 6)");
        more.fraction("effect", "", -37951, 27720).due("chance()", 37).due("helped()", 0).end();
        began(run("HELPED: an EFFECT of 0 is not below 0"), 6, 6, 6).fraction("effect", "", 0, 1).due("helped()", 0).end();
    }

    private static void count() {
        Run others = run("P38: -9 for another what").due("count(-1)", -9).due("count(8)", -9).due("count(9)", -9);
        others.due("count(10)", -9).due("count(18)", -9).due("count(MIN)", -9).due("count(MAX)", -9).end();
        run("P38: no call answers -5").refused("days(0)", -4).refused("days(MAX)", -6).due("count(15)", 0).end();
        run("P38: -9 is no refusal").did("complaint(0, 0, 0, 0)", "kitchen(0, 0, 1, 0, 0)", "kin(0, 0, true)")
                .due("joined(0)", -9).due("chance()", -9).due("count(8)", -9).due("roundOf(1, 0, 0)", -9).end();
        run("REFUSALS of longs are counted, too").refused("habit(5, 0)", -1).refused("habit(0, 2)", -2)
                .refused("habit(0, 0)", -3).refused("evened(0, 0)", -1).refused("effect(2)", -2).refused("effect(0)", -3)
                .due("count(11)", 2).due("count(12)", 2).due("count(13)", 2).end();
        run("REFUSALS: each of its own number").did("kitchen(0, 0, 1, 0, 0)", "kin(0, 0, true)").refused("back(0)", -1)
                .due("count(11)", 1).refused("base(4, 1)", -2).due("count(12)", 1).refused("look(0, 1, 1)", -3)
                .due("count(13)", 1).refused("capacity(0)", -4).due("count(14)", 1).due("count(15)", 0)
                .refused("capacity(10)", -6).due("count(16)", 1).refused("look(0, 0, 0)", -7).due("count(17)", 1).end();
        Run many = run("REFUSALS: as many as calls");
        for (int i = 0; i < 500; i++) many.refused("capacity(0)", -4);
        many.end();
    }

    public static void main(String[] args) {
        began();
        cases();
        effectOrNone();
        effect();
        chance();
        count();
        DUE.finish();
    }
}
