/**
 * REFUSALS, promise by promise: every argument at its edges and one beyond, on both sides, each with
 * each; of several refusals the first in the order that the promise tells; a refused call changes
 * nothing but how many refusals there were.
 */
public final class RefusalsTest {
    private static final Due DUE = new Due();

    private static final String KITCHEN = "MIN=-1 -1=-1 0 2 3=-1 MAX=-1";
    private static final String CODE = "MIN=-1 -1=-1 0 1 2 3=-1 MAX=-1";
    private static final String LOOK = "MIN=-1 -1=-1 0 5 6=-1 MAX=-1";
    private static final String INSPECTOR = "MIN=-1 -1=-1 0 4 5=-1 MAX=-1";
    private static final String STREET = "MIN=-1 -1=-1 0 5 6=-1 MAX=-1";
    private static final String GROUP = "MIN=-1 -1=-1 0 1 4 5=-1 MAX=-1";
    private static final String KIND = "MIN=-2 -1=-2 0 3 4=-2 MAX=-2";
    private static final String COMPLAINT = "MIN=-1 -1=-1 0 1 2=-1 MAX=-1";
    private static final String ANY_DAY = "MIN=-4 -1=-4 0 1500 1501=-6 MAX=-6";
    private static final String NOW_OR_LATER = "MIN=-4 -1=-4 9=-4 10 1500 1501=-6 MAX=-6";
    private static final String PIECE = "MIN=-2 -1=-2 0 1 2=-2 MAX=-2";
    private static final String TRUTH = "0 1";

    /** A little of everything, on DAY 10: codes 0 .. 2, kitchens 0 .. 2, looks 0 .. 5, complaints 0 and 1. */
    private static final String[] TOWN = {
        "code(0, 7, 0)", "code(1, 5, 0)", "code(2, 3, 12)", "turn(0, 1, 8)", "most(1, 30)",
        "kitchen(0, 0, 120, 0, 3)", "kitchen(1, 0, 80, 1, 1)", "kitchen(3, 2, 999, 9, 255)",
        "table(0, 3, 8, 15, 30)", "kin(1, 0, true)", "hard(1, true)",
        "look(0, 0, 0)", "find(0, 2)", "find(1, 1)", "look(0, 2, 0)", "find(0, 1)", "days(10)",
        "look(1, 3, 5)", "find(1, 3)", "look(1, 1, 5)", "find(1, 5)", "look(2, 4, 9)", "back(4)",
        "look(2, 4, 10)", "find(1, 1)", "show(0, 5)", "show(1, 1)", "base(2, 20)", "capacity(1)",
        "shut(0, 2, 4)", "complaint(0, 0, 9, 0)", "complaint(2, 3, 3, 7)",
        "began(0, 3)", "began(1, 6)", "began(2, 0)", "cases(0, 0, 9)", "cases(1, 11, 4)", "cases(5, 5, 2)"
    };

    private static Grid town(String name, int... order) {
        return new Grid(DUE, name, order).after(TOWN);
    }

    private static void promises2To6() {
        town("days", -4, -6).argument("MIN=-4 -1=-4 0=-4 1 1490 1491=-6 1501=-6 MAX=-6").answers(a -> 10 + a[0]).go();
        String points = "MIN=-4 -1=-4 0 50 51=-6 MAX=-6";
        town("code", -1, -4, -6).argument(GROUP).argument(points).argument(NOW_OR_LATER).answers(a -> 3).go();
        town("code", -1, -4, -6).afterTimes(36, "code(4, 1, 20)")
                .argument("0 4").argument("0 50").argument("10 1500").answers(a -> 39).go();
        town("code", -1, -4, -6).afterTimes(37, "code(4, 1, 20)").refused(-6)
                .argument("-1=-1 0 4 5=-1").argument("-1=-4 0 50 51=-6").argument("9=-4 10 1500 1501=-6").go();
        town("turn", -1, -3, -4, -6).argument(CODE).argument(CODE).argument(NOW_OR_LATER)
                .refusedIf(-3, a -> a[0] == 0).refusedIf(-3, a -> a[1] <= a[0]).answers(a -> 1).go();
        town("stands", -1, -4, -6).argument(CODE).argument(ANY_DAY)
                .answers(a -> a[0] == 0 && a[1] >= 8 ? 1 : a[0]).go();
        town("most", -1, -4, -6).argument(GROUP).argument("MIN=-4 -1=-4 0 200 201=-6 MAX=-6")
                .answers(a -> a[0] == 1 ? 30 : 60).go();
    }

    private static void promises7To9() {
        town("kitchen", -2, -1, -4, -6).argument("-1=-2 0 3 4=-2").argument("-1=-1 0 5 6=-1")
                .argument("0=-4 1 999 1000=-6").argument("-1=-1 0 9 10=-1").argument("-1=-4 0 255 256=-6")
                .answers(a -> 3).go();
        town("kitchen", -2, -1, -4, -6).argument("MIN=-2 0 MAX=-2").argument("MIN=-1 0 MAX=-1")
                .argument("MIN=-4 1 MAX=-6").argument("MIN=-1 0 MAX=-1").argument("MIN=-4 0 MAX=-6")
                .answers(a -> 3).go();
        town("kitchen", -2, -1, -4, -6).afterTimes(17, "kitchen(1, 1, 1, 1, 1)").refused(-6)
                .argument("3 4=-2").argument("5 6=-1").argument("0=-4 1 1000=-6").argument("9 10=-1")
                .argument("-1=-4 255 256=-6").go();
        town("hard", -1).argument(KITCHEN).argument(TRUTH).answers(a -> a[0] == 1 ^ a[1] == 1 ? 1 : 0).go();
        town("kin", -1).argument(INSPECTOR + " 1").argument("MIN=-1 -1=-1 0 9 10=-1 MAX=-1").argument(TRUTH)
                .answers(a -> (a[0] == 1 && a[1] == 0) ^ a[2] == 1 ? 1 : 0).go();
    }

    private static void promises10To13() {
        String day = "MIN=-4 -1=-4 0 10 11=-3 1500=-3 1501=-3 MAX=-3";
        town("look", -1, -7, -3, -4, -6).argument(KITCHEN).argument(INSPECTOR + " 1").argument(day)
                .refusedIf(-7, a -> a[0] == 0 && a[1] == 1).answers(a -> 6).go();
        town("look", -1, -7, -3, -4, -6).afterTimes(73, "look(2, 0, 3)")
                .argument("0 2").argument("0 4").argument("0 10").answers(a -> 79).go();
        town("look", -1, -7, -3, -4, -6).afterTimes(74, "look(2, 0, 3)").refused(-6)
                .argument("-1=-1 0 2 3=-1").argument("0 1 5=-1").argument("-1=-4 0 10 11=-3")
                .refusedIf(-7, a -> a[0] == 0 && a[1] == 1).go();
        String codes = "MIN=-1 -1=-1 0 1 2=-3 3=-1 MAX=-1";
        String times = "MIN=-4 -1=-4 0=-4 1 9 10=-6 MAX=-6";
        town("find", -1, -3, -4, -6).argument(codes).argument(times).answers(a -> a[1] + a[0]).go();
        town("find", -1, -3, -4, -6).after("back(5)").refused(-3).argument(codes).argument(times).go();
        town("find", -1, -3, -4, -6).afterTimes(10, "find(1, 9)").after("find(1, 6)")
                .argument(codes).argument("0=-4 1 2 3 9 10=-6").refusedIf(-6, a -> a[0] == 1 && a[1] > 2)
                .answers(a -> a[0] == 1 ? 97 + a[1] : a[1]).go();
        new Grid(DUE, "find", -1, -3, -4, -6).after("code(0, 1, 0)").refused(-3)
                .argument("-1=-1 0 1=-1").argument(times).go();
        town("back", -1, -3).argument("MIN=-1 -1=-1 0 3 4=-3 5 6=-1 MAX=-1").answers(a -> 1).go();
        town("score", -1, -4, -6).argument(LOOK).argument(ANY_DAY)
                .answers(a -> a[0] == 5 ? 5 : a[1] == 0 ? 14 + 5 : 3 * 5).go();
    }

    private static void promises14To16() {
        String bound = "-1=-4 0 500 999 1000=-6";
        town("table", -4, -6).argument("9=-4 10 1500 1501=-6")
                .argument(bound).argument(bound).argument(bound).argument(bound)
                .refusedIf(-4, a -> a[1] > a[2]).refusedIf(-4, a -> a[2] > a[3]).refusedIf(-4, a -> a[3] > a[4])
                .answers(a -> 1).go();
        String wide = "MIN=-4 7 MAX=-6";
        town("table", -4, -6).argument("MIN=-4 10 MAX=-6")
                .argument(wide).argument(wide).argument(wide).argument(wide)
                .refusedIf(-4, a -> a[1] > a[2]).refusedIf(-4, a -> a[2] > a[3]).refusedIf(-4, a -> a[3] > a[4])
                .answers(a -> 1).go();
        town("table", -4, -6).afterTimes(8, "table(10, 1, 2, 3, 4)").argument("10 1500").argument("0 1")
                .argument("1").argument("1").argument("1 999").answers(a -> 9).go();
        town("table", -4, -6).afterTimes(9, "table(10, 1, 2, 3, 4)").refused(-6).argument("9=-4 10 1501=-6")
                .argument("-1=-4 0 2").argument("1").argument("1").argument("0 1 1000=-6")
                .refusedIf(-4, a -> a[1] > a[2]).refusedIf(-4, a -> a[3] > a[4]).go();
        town("star", -1, -4, -6).argument(KITCHEN).argument(ANY_DAY).argument(ANY_DAY).go();
        town("show", -1, -4, -6).argument(KITCHEN).argument("MIN=-4 -1=-4 0 5 6=-6 MAX=-6")
                .answers(a -> a[0] == 0 ? 5 : 0).go();
    }

    private static void promises18To23() {
        town("base", -2, -4, -6).argument(KIND + " 2").argument("MIN=-4 -1=-4 0=-4 1 50 51=-6 MAX=-6")
                .answers(a -> a[0] == 2 ? 20 : 10).go();
        town("risk", -1, -2).argument(KITCHEN).argument(PIECE).go();
        town("delay", -1, -4, -6).argument(KITCHEN).argument(ANY_DAY).go();
        town("capacity", -4, -6).argument("MIN=-4 -1=-4 0=-4 1 9 10=-6 MAX=-6").answers(a -> 1).go();
        String hands = "MIN=-4 -1=-4 0=-4 1 3 4=-6 MAX=-6";
        town("rounds", -4, -6).argument(hands).go();
        town("rounds", -4, -6).after("days(1483)").argument(hands).go();
        town("rounds", -4, -6).after("days(1484)").refused(-6).argument(hands).go();
        town("roundOf", -1, -2, -4, -6).argument(hands).argument(KITCHEN).argument(PIECE).go();
        town("roundOf", -1, -2, -4, -6).after("days(1483)").argument(hands).argument(KITCHEN).argument(PIECE).go();
        town("roundOf", -1, -2, -4, -6).after("days(1484)").refused(-6)
                .argument(hands).argument(KITCHEN).argument(PIECE).go();
        town("rounds", -4, -6).after("days(1490)").refused(-6).argument(hands).go();
    }

    /** In the town INSPECTORS 0 and 2, 1 and 3 are joined by DOUBLES; 4 is in none. */
    private static void promises25To28() {
        String inspector = "MIN=-1 -1=-1 0 1 2 3 4=-3 5=-1 MAX=-1";
        town("habit", -1, -2, -3).argument(inspector).argument(PIECE).go();
        town("evened", -1, -2).argument(LOOK).argument(PIECE).go();
        town("swap", -4, -6, -1).argument("MIN=-4 -1=-4 0 9999 10000=-6 MAX=-6")
                .argument("MIN=-4 0=-4 1=-4 2 5 6=-6 MAX=-6").argument("MIN=-1 -1=-1 0 1 2 4 5=-1 MAX=-1")
                .refusedIf(-1, a -> a[2] >= a[1]).go();
    }

    private static void promises29To32() {
        town("shut", -1, -4, -6).argument(KITCHEN).argument(ANY_DAY).argument(ANY_DAY)
                .refusedIf(-4, a -> a[2] < a[1]).answers(a -> a[0] == 0 ? 2 : 1).go();
        town("shut", -1, -4, -6).afterTimes(7, "shut(0, 1, 1)").refusedIf(-6, a -> a[0] == 0)
                .argument("0 1 3=-1").argument("-1=-4 0 7 1501=-6").argument("-1=-4 0 7 1501=-6")
                .refusedIf(-4, a -> a[2] < a[1]).answers(a -> 1).go();
        String dish = "MIN=-1 -1=-1 0 7 8=-1 MAX=-1";
        town("complaint", -1, -4, -6).argument(STREET).argument(ANY_DAY).argument(ANY_DAY).argument(dish)
                .refusedIf(-4, a -> a[2] < a[1]).answers(a -> 2).go();
        town("complaint", -1, -4, -6).afterTimes(17, "complaint(1, 1, 1, 1)").argument("0 5").argument("0 7")
                .argument("7 1500").argument("0 7").answers(a -> 19).go();
        town("complaint", -1, -4, -6).afterTimes(18, "complaint(1, 1, 1, 1)").refused(-6)
                .argument("5 6=-1").argument("-1=-4 0 7 1501=-6").argument("-1=-4 0 7 1501=-6").argument("7 8=-1")
                .refusedIf(-4, a -> a[2] < a[1]).go();
        town("part", -1, -2).argument(COMPLAINT).argument(KITCHEN).argument(PIECE).go();
        town("joined", -1).argument(COMPLAINT).answers(a -> a[0] == 0 ? 0 : 2).go();
    }

    private static void promises33To38() {
        town("began", -1, -4, -6).argument(STREET).argument("MIN=-4 -1=-4 0 11 12 13=-6 MAX=-6")
                .answers(a -> a[0] == 0 ? 3 : 12).go();
        // that a MONTH which is none is NOBODY is told by ../shared/tests: cases(0, 12, 1) answers -1
        town("cases", -1, -4, -6).argument(STREET).argument("MIN=-1 -1=-1 0 11 12=-1 MAX=-1")
                .argument("MIN=-4 -1=-4 0 999 1000=-6 MAX=-6").answers(a -> a[0] == 0 && a[1] == 0 ? 9 : 0).go();
        town("effect", -2, -3).argument(PIECE).go();
        town("effect", -2, -3).after("began(0, 12)", "began(1, 12)").refused(-3).argument(PIECE).go();
        town("count").argument("0").answers(a -> 10).go();
        town("count").argument("MIN -1 8 9 10 18 MAX").answers(a -> -9).go();
    }

    private static void nothingYet() {
        String[] ofKitchen = {"hard(0, true)", "look(0, 0, 0)", "star(0, 0, 0)", "show(0, 0)", "risk(0, 0)",
            "delay(0, 0)", "roundOf(1, 0, 0)", "shut(0, 0, 0)"};
        String[] ofOthers = {"turn(0, 1, 0)", "stands(0, 0)", "find(0, 1)", "back(0)", "score(0, 0)",
            "evened(0, 0)", "part(0, 0, 0)", "joined(0)"};
        Run run = new Run(DUE, "a new object has nothing");
        for (String call : ofKitchen) run.refused(call, -1);
        for (String call : ofOthers) run.refused(call, -1);
        run.refused("habit(0, 0)", -3).refused("effect(0)", -3).end();
        Run kitchenOnly = new Run(DUE, "a kitchen without a complaint").did("kitchen(0, 0, 1, 0, 1)");
        kitchenOnly.refused("part(0, 0, 0)", -1).end();
        Run complaintOnly = new Run(DUE, "a complaint without a kitchen").did("complaint(0, 0, 0, 0)");
        complaintOnly.refused("part(0, 0, 0)", -1).due("joined(0)", -9).due("count(7)", 0).end();
    }

    public static void main(String[] args) {
        promises2To6();
        promises7To9();
        promises10To13();
        promises14To16();
        promises18To23();
        promises25To28();
        promises29To32();
        promises33To38();
        nothingYet();
        DUE.finish();
    }
}
