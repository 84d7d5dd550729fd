/** Boundary cases of promises 29 to 32 and of what "Terms" say of SHUT, COMPLAINTS, PART and JOINED. */
public final class ComplaintsEdgesTest {
    private static final Due DUE = new Due();
    private static final String KITCHEN = "kitchen(0, 0, 1, 0, 1)";

    private static Run run(String sentence) {
        return new Run(DUE, sentence);
    }

    /** Kitchens 0 and 1 of 100 MOUTHS each, and a complaint of the DAYS 10 .. 19. */
    private static Run two(String sentence) {
        return run(sentence).did("kitchen(0, 0, 100, 0, 1)", "kitchen(0, 0, 100, 0, 1)", "complaint(0, 10, 19, 0)");
    }

    private static void shut() {
        run("P29: no such KITCHEN").did(KITCHEN).refused("shut(-1, 0, 0)", -1).refused("shut(1, 0, 0)", -1)
                .due("shut(0, 0, 0)", 1).end();
        run("P29: DAYS 0 .. 1500").did(KITCHEN).refused("shut(0, -1, 0)", -4).refused("shut(0, 0, -1)", -4)
                .refused("shut(0, 0, 1501)", -6).refused("shut(0, 1501, 1501)", -6).due("shut(0, 0, 1500)", 1)
                .due("shut(0, 1500, 1500)", 2).due("shut(0, 0, 0)", 3).end();
        run("P29: -4 to ahead of from").did(KITCHEN).refused("shut(0, 6, 5)", -4).due("shut(0, 5, 5)", 1)
                .due("shut(0, 5, 6)", 2).end();
        run("P29: 8 such a KITCHEN").did(KITCHEN, KITCHEN).times(7, "shut(0, 1, 1)").due("shut(0, 1, 1)", 8)
                .refused("shut(0, 1, 1)", -6).due("shut(1, 1, 1)", 1).end();
        run("P29: 8 of the last KITCHEN").times(20, KITCHEN).times(7, "shut(19, 1, 1)").due("shut(19, 1, 1)", 8)
                .refused("shut(19, 1, 1)", -6).due("shut(18, 1, 1)", 1).end();
        run("P29: -1, -4, -6 in this order").did(KITCHEN).times(8, "shut(0, 1, 1)").refused("shut(1, 1, 0)", -1)
                .refused("shut(1, 0, 1501)", -1).refused("shut(0, -1, 1501)", -4).refused("shut(0, 1502, 1501)", -4)
                .refused("shut(0, 2, 1)", -4).refused("shut(0, 0, 1501)", -6).end();
    }

    private static void complaint() {
        run("P30: STREET 0 .. 5").refused("complaint(-1, 0, 0, 0)", -1).refused("complaint(6, 0, 0, 0)", -1)
                .due("complaint(0, 0, 0, 0)", 0).due("complaint(5, 0, 0, 0)", 1).end();
        run("P30: DISH 0 .. 7").refused("complaint(0, 0, 0, -1)", -1).refused("complaint(0, 0, 0, 8)", -1)
                .due("complaint(0, 0, 0, 0)", 0).due("complaint(0, 0, 0, 7)", 1).end();
        run("P30: DAYS 0 .. 1500").refused("complaint(0, -1, 0, 0)", -4).refused("complaint(0, 0, 1501, 0)", -6)
                .refused("complaint(0, 1501, 1501, 0)", -6).due("complaint(0, 0, 1500, 0)", 0)
                .due("complaint(0, 1500, 1500, 0)", 1).end();
        run("P30: -4 to ahead of from").refused("complaint(0, 6, 5, 0)", -4).due("complaint(0, 5, 5, 0)", 0).end();
        run("P30: 20 at most").times(19, "complaint(0, 0, 0, 0)").due("complaint(0, 0, 0, 0)", 19)
                .refused("complaint(0, 0, 0, 0)", -6).due("count(6)", 20).due("joined(19)", -9).refused("joined(20)", -1)
                .end();
        run("P30: -1, -4, -6 in this order").times(20, "complaint(0, 0, 0, 0)").refused("complaint(6, 1, 0, 0)", -1)
                .refused("complaint(0, 1, 0, 8)", -1).refused("complaint(0, 0, 1501, 8)", -1)
                .refused("complaint(0, -1, 1501, 0)", -4).refused("complaint(0, 1502, 1501, 0)", -4)
                .refused("complaint(0, 1, 0, 0)", -4).refused("complaint(0, 0, 1501, 0)", -6).end();
    }

    private static void part() {
        two("P31: no such COMPLAINT").refused("part(-1, 0, 0)", -1).refused("part(1, 0, 0)", -1).end();
        two("P31: no such KITCHEN").refused("part(0, -1, 0)", -1).refused("part(0, 2, 0)", -1).end();
        two("P31: part 0, 1").refused("part(0, 0, -1)", -2).refused("part(0, 0, 2)", -2).end();
        two("P31: -1, -2 in this order").refused("part(1, 0, 2)", -1).refused("part(0, 2, -1)", -1).end();
        two("P31: without a common divisor").fraction("part", "0, 0", 1, 2).fraction("part", "0, 1", 1, 2).end();
        run("P31: KITCHENS of the STREET").did("kitchen(0, 4, 10, 0, 1)", "kitchen(0, 5, 10, 0, 1)",
                "complaint(5, 0, 0, 0)").fraction("part", "0, 0", 0, 1).fraction("part", "0, 1", 1, 1).end();
        run("P31: with that DISH").did("kitchen(0, 0, 10, 0, 127)", "kitchen(0, 0, 10, 0, 128)", "kitchen(0, 0, 10, 0, 0)",
                "complaint(0, 0, 0, 7)", "complaint(0, 0, 0, 0)", "complaint(0, 0, 0, 6)").fraction("part", "0, 0", 0, 1)
                .fraction("part", "0, 1", 1, 1).fraction("part", "0, 2", 0, 1).fraction("part", "1, 0", 1, 1)
                .fraction("part", "1, 1", 0, 1).fraction("part", "2, 0", 1, 1).end();
        run("P31: 0 without any").did("kitchen(0, 0, 10, 0, 0)", "complaint(0, 0, 0, 0)").fraction("part", "0, 0", 0, 1)
                .due("joined(0)", -9).end();
        long all = 999L * 19 * 1501 + 1;
        Run wide = run("P31: the widest").times(19, "kitchen(0, 0, 999, 0, 1)").did(KITCHEN, "shut(19, 0, 1499)",
                "complaint(0, 0, 1500, 0)");
        wide.fraction("part", "0, 19", 1, all).due("part(0, 0, 1)", all).due("part(0, 0, 0)", 999L * 1501).end();
    }

    private static void shutDays() {
        two("SHUT up to the DAY ahead of it").did("shut(0, 0, 9)").fraction("part", "0, 0", 1, 2).end();
        two("SHUT up to its first DAY").did("shut(0, 0, 10)").fraction("part", "0, 0", 9, 19).end();
        two("SHUT from its last DAY on").did("shut(0, 19, 1500)").fraction("part", "0, 0", 9, 19).end();
        two("SHUT from the DAY behind it on").did("shut(0, 20, 1500)").fraction("part", "0, 0", 1, 2).end();
        two("SHUT on all but the first").did("shut(0, 11, 1500)").fraction("part", "0, 0", 1, 11).end();
        two("SHUT on all but the last").did("shut(0, 0, 18)").fraction("part", "0, 0", 1, 11).end();
        two("SHUT on just its DAYS").did("shut(0, 10, 19)").fraction("part", "0, 0", 0, 1).fraction("part", "0, 1", 1, 1)
                .end();
        two("SHUT twice on one DAY").did("shut(0, 12, 12)", "shut(0, 12, 12)").fraction("part", "0, 0", 9, 19).end();
        two("SHUT, one inside the other").did("shut(0, 13, 14)", "shut(0, 11, 18)").fraction("part", "0, 0", 1, 6).end();
        two("SHUT, one ends where the next begins").did("shut(0, 15, 19)", "shut(0, 10, 15)")
                .fraction("part", "0, 0", 0, 1).end();
        two("SHUT, a DAY open between the two").did("shut(0, 16, 19)", "shut(0, 10, 14)").fraction("part", "0, 0", 1, 11)
                .end();
        two("both SHUT: 0 by 1").did("shut(0, 10, 19)", "shut(1, 0, 1500)").fraction("part", "0, 0", 0, 1)
                .fraction("part", "0, 1", 0, 1).due("joined(0)", -9).end();
        two("both SHUT later: 0 by 1 for a half").fraction("part", "0, 0", 1, 2).did("shut(0, 10, 19)", "shut(1, 10, 19)")
                .due("part(0, 1, 1)", 1).due("part(0, 1, 0)", 0).fraction("part", "0, 0", 0, 1).end();
        run("a COMPLAINT of one DAY").did(KITCHEN, KITCHEN, "complaint(0, 5, 5, 0)", "shut(0, 4, 4)", "shut(0, 6, 6)")
                .fraction("part", "0, 0", 1, 2).did("shut(0, 5, 5)").fraction("part", "0, 0", 0, 1)
                .fraction("part", "0, 1", 1, 1).due("joined(0)", 1).end();
        Run eight = two("SHUT eight times, every other DAY but one");
        for (int day = 17; day >= 10; day--) eight.did("shut(0, " + (2 * day - 16) + ", " + (2 * day - 16) + ")");
        // 4, 6, 8, 10, .. 18: five of its DAYS
        eight.fraction("part", "0, 0", 1, 3).end();
        Run inside = run("SHUT eight times inside, open on its first DAY and its last").did(KITCHEN, KITCHEN,
                "complaint(0, 0, 16, 0)");
        for (int day = 15; day > 0; day -= 2) inside.did("shut(0, " + day + ", " + day + ")");
        inside.fraction("part", "0, 0", 9, 26).fraction("part", "0, 1", 17, 26).due("joined(0)", 1).end();
        Run last = run("the last KITCHEN SHUT eight times").times(20, KITCHEN).did("complaint(0, 0, 16, 0)");
        for (int day = 1; day < 16; day += 2) last.did("shut(19, " + day + ", " + day + ")");
        last.fraction("part", "0, 19", 9, 19 * 17 + 9).fraction("part", "0, 18", 17, 19 * 17 + 9).end();
        run("a COMPLAINT of the first DAY, and of the last").did(KITCHEN, KITCHEN, "complaint(0, 0, 0, 0)",
                "complaint(0, 1500, 1500, 0)", "shut(0, 0, 0)").fraction("part", "0, 0", 0, 1)
                .fraction("part", "1, 0", 1, 2).did("shut(1, 1500, 1500)").fraction("part", "1, 1", 0, 1).end();
    }

    private static void joined() {
        run("P32: no such COMPLAINT").did(KITCHEN).refused("joined(0)", -1).did("complaint(0, 0, 0, 0)")
                .refused("joined(-1)", -1).refused("joined(1)", -1).due("joined(0)", 0).end();
        two("P32: a half is no more than a half").due("joined(0)", -9).due("count(7)", 0).did("shut(0, 10, 10)")
                .due("joined(0)", 1).due("count(7)", 1).end();
        run("P32: a half of three").did("kitchen(0, 0, 2, 0, 1)", KITCHEN, KITCHEN, "complaint(0, 0, 0, 0)")
                .due("joined(0)", -9).end();
        run("P32: more than a half of three").did(KITCHEN, KITCHEN, "kitchen(0, 0, 3, 0, 1)", "complaint(0, 0, 0, 0)")
                .due("joined(0)", 2).end();
        run("P32: the greatest, but less than a half").did("kitchen(0, 0, 2, 0, 1)", "kitchen(0, 0, 3, 0, 1)",
                "kitchen(0, 0, 2, 0, 1)", "complaint(0, 0, 0, 0)").due("joined(0)", -9).end();
        run("P32: by the least that can be").did("kitchen(0, 0, 999, 0, 1)", "kitchen(0, 0, 998, 0, 1)",
                "complaint(0, 0, 1500, 0)").due("joined(0)", 0).end();
        run("P32: the last of 20").times(19, "kitchen(0, 0, 50, 0, 1)").did("kitchen(0, 0, 951, 0, 1)",
                "complaint(0, 0, 0, 0)").due("joined(0)", 19).end();
        run("P32: no more than the others together").times(19, "kitchen(0, 0, 50, 0, 1)").did(
                "kitchen(0, 0, 950, 0, 1)", "complaint(0, 0, 0, 0)").due("joined(0)", -9).end();
        run("P38: those that are JOINED, all 20").did(KITCHEN).times(20, "complaint(0, 0, 0, 0)").due("count(7)", 20)
                .did(KITCHEN).due("count(7)", 0).end();
    }

    public static void main(String[] args) {
        shut();
        complaint();
        part();
        shutDays();
        joined();
        DUE.finish();
    }
}
