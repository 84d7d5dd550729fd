/** Promises 33 to 38: began, cases, effect, chance, helped, count. */
public final class HelpedTest {
    private static final Due DUE = new Due();
    private static final long REFUSED = 4000000000000000000L;

    private static void effect(DoorStars x, long above, long below) {
        DUE.is("effect(0)", x.effect(0), above);
        DUE.is("effect(1)", x.effect(1), below);
    }

    private static void began() {
        DoorStars x = new DoorStars();
        DUE.is("began(6, -1)", x.began(6, -1), -1);
        DUE.is("began(-1, 0)", x.began(-1, 0), -1);
        DUE.is("began(0, -1)", x.began(0, -1), -4);
        DUE.is("began(0, 13)", x.began(0, 13), -6);
        DUE.is("began(5, 0)", x.began(5, 0), 12);
        DUE.is("began(5, 12)", x.began(5, 12), 0);
        DUE.is("began(0, 3)", x.began(0, 3), 12);
        DUE.is("began(0, 3) again", x.began(0, 3), 3);
    }

    private static void cases() {
        DoorStars x = new DoorStars();
        DUE.is("cases(6, 0, -1)", x.cases(6, 0, -1), -1);
        DUE.is("cases(-1, 0, 0)", x.cases(-1, 0, 0), -1);
        DUE.is("cases(0, 12, 1000)", x.cases(0, 12, 1000), -1);
        DUE.is("cases(0, -1, 0)", x.cases(0, -1, 0), -1);
        DUE.is("cases(0, 0, -1)", x.cases(0, 0, -1), -4);
        DUE.is("cases(0, 0, 1000)", x.cases(0, 0, 1000), -6);
        DUE.is("cases(5, 11, 999)", x.cases(5, 11, 999), 0);
        DUE.is("cases(5, 11, 1)", x.cases(5, 11, 1), 999);
        DUE.is("cases(5, 10, 2)", x.cases(5, 10, 2), 0);
        DUE.is("cases(5, 11, 0)", x.cases(5, 11, 0), 1);
    }

    private static void effectOrNone() {
        DoorStars x = new DoorStars();
        DUE.is("effect(2): -2 first", x.effect(2), REFUSED + 2);
        DUE.is("effect(-1)", x.effect(-1), REFUSED + 2);
        DUE.is("none began", x.effect(0), REFUSED + 3);
        DUE.is("chance without one", x.chance(), -9);
        x.began(0, 0);
        DUE.is("a street that began at month 0 is none of these", x.effect(1), REFUSED + 3);
        x.began(0, 11);
        effect(x, 0, 1);
        for (int s = 1; s < 6; s++) x.began(s, 1);
        DUE.is("none never began", x.effect(0), REFUSED + 3);
        DUE.is("helped without one", x.helped(), 0);
        DUE.is("count(12)", x.count(12), 2);
        DUE.is("count(13)", x.count(13), 3);
    }

    private static void effectOfOne() {
        DoorStars x = new DoorStars();
        x.began(0, 5);
        for (int m = 0; m < 12; m++) x.cases(0, m, m);
        // 5 .. 11 have a mean of 8, 0 .. 4 one of 2
        effect(x, 6, 1);
        x.cases(3, 0, 7);
        // the five others have a mean of 7 by 5 ahead of it, by 5 streets
        effect(x, 6 * 25 + 7, 25);
        for (int s = 1; s < 6; s++) if (s != 3) x.began(s, 0);
        effect(x, 6 * 5 + 7, 5);
        x.began(1, 11);
        x.cases(1, 11, 3);
        x.cases(1, 0, 11);
        // 3 less 1, less 0 less 7 by 11: with 37 by 5 the mean of two
        effect(x, (37 * 11 + (2 * 11 + 7) * 5) / 2, 55);
    }

    /** One street falls most if the month of its beginning is dealt to it, so 120 ways of 720 are as low. */
    private static void chances() {
        DoorStars x = new DoorStars();
        x.began(2, 6);
        for (int m = 0; m < 6; m++) x.cases(2, m, 10);
        effect(x, -10, 1);
        DUE.is("one street of six", x.chance(), 120);
        DUE.is("that is too many", x.helped(), 0);
        x.began(4, 6);
        for (int m = 0; m < 6; m++) x.cases(4, m, 10);
        DUE.is("two streets: 2 times 24", x.chance(), 48);
        DUE.is("still too many", x.helped(), 0);
        x.began(5, 6);
        for (int m = 0; m < 6; m++) x.cases(5, m, 10);
        DUE.is("three streets: 6 times 6", x.chance(), 36);
        DUE.is("36 is few enough", x.helped(), 1);
        x.cases(5, 6, 1);
        effect(x, -10 * 18 + 1, 18);
        DUE.is("the same ways", x.chance(), 36);
        for (int m = 0; m < 6; m++) x.cases(0, m, 10);
        DUE.is("another street that fell as much", x.chance() > 36 ? 1 : 0, 1);
        DUE.is("then it is not so sure", x.helped(), 0);
    }

    private static void oneMoreThanFew() {
        DoorStars x = new DoorStars();
        int[] months = {7, 0, 1, 4, 9, 12};
        for (int s = 0; s < 6; s++) x.began(s, months[s]);
        int[] cases = {0, 2, 6, 0, 3, 6, 0, 5, 2, 1, 10, 2, 2, 2, 2, 4, 1, 6, 5, 0, 1, 5, 9, 6};
        for (int i = 0; i < cases.length; i += 3) x.cases(cases[i], cases[i + 1], cases[i + 2]);
        effect(x, -37951, 27720);
        DUE.is("37 ways", x.chance(), 37);
        DUE.is("are too many", x.helped(), 0);
    }

    private static void firstStreetNever() {
        DoorStars x = new DoorStars();
        for (int s = 1; s < 6; s++) x.began(s, 2 * s);
        x.cases(0, 0, 6);
        x.cases(5, 11, 2);
        // street 0 falls by 6 by 2, 4, 6, 8 and 10; street 5 rises by 1
        effect(x, (6 * (60 + 30 + 20 + 15 + 12) + 120) / 6, 5 * 120 / 6);
        x.began(0, 6);
        DUE.is("none never began", x.effect(0), REFUSED + 3);
    }

    private static void noneHelped() {
        DoorStars x = new DoorStars();
        for (int s = 0; s < 3; s++) {
            x.began(s, 6);
            for (int m = 6; m < 12; m++) x.cases(s, m, 10);
        }
        effect(x, 10, 1);
        DUE.is("the greatest of all", x.chance(), 720);
        DUE.is("more cases are no help", x.helped(), 0);
        for (int s = 0; s < 3; s++) for (int m = 6; m < 12; m++) x.cases(s, m, 0);
        effect(x, 0, 1);
        DUE.is("all alike", x.chance(), 720);
        DUE.is("0 is not below 0", x.helped(), 0);
    }

    private static void monthsOfOthers() {
        DoorStars x = new DoorStars();
        x.began(0, 1);
        x.began(1, 11);
        x.began(2, 0);
        x.cases(0, 0, 11);
        for (int m = 0; m < 11; m++) x.cases(1, m, 1);
        // -11 and -1 against 0
        effect(x, -6, 1);
        DUE.is("the two as they are and no other way", x.chance(), 24);
        DUE.is("so it helped", x.helped(), 1);
        x.began(1, 1);
        x.began(0, 11);
        DUE.is("the other way round is weaker", x.chance() > 24 ? 1 : 0, 1);
    }

    private static void count() {
        DoorStars x = new DoorStars();
        int[] none = {-1, 8, 9, 10, 18, 100, Integer.MIN_VALUE, Integer.MAX_VALUE};
        for (int what : none) DUE.is("count(" + what + ")", x.count(what), -9);
        x.days(4);
        x.code(0, 1, 4);
        x.code(0, 1, 4);
        x.kitchen(0, 0, 1, 0, 1);
        for (int i = 0; i < 5; i++) x.look(0, 0, 1);
        x.back(1);
        x.back(4);
        x.table(4, 1, 1, 1, 1);
        x.complaint(0, 0, 1, 0);
        x.complaint(0, 0, 1, 1);
        x.complaint(0, 0, 1, 0);
        int[] due = {4, 2, 1, 5, 2, 1, 3, 2};
        for (int what = 0; what < 8; what++) DUE.is("count(" + what + ")", x.count(what), due[what]);
        for (int what = 11; what <= 17; what++) DUE.is("count(" + what + ")", x.count(what), 0);
        x.hard(1, true);
        x.base(9, 1);
        x.base(9, 1);
        for (int i = 0; i < 3; i++) x.back(1);
        for (int i = 0; i < 4; i++) x.days(0);
        for (int i = 0; i < 6; i++) x.rounds(4);
        x.kin(1, 0, true);
        for (int i = 0; i < 7; i++) x.look(0, 1, 0);
        x.habit(7, 0);
        x.evened(0, 7);
        x.effect(0);
        int[] refusals = {2, 3, 4, 4, 0, 6, 7};
        for (int kind = 1; kind <= 7; kind++) DUE.is("refusals of " + -kind, x.count(10 + kind), refusals[kind - 1]);
        x.joined(1);
        x.chance();
        x.count(99);
        x.roundOf(1, 0, 0);
        DUE.is("-9 is no refusal", x.count(11) + x.count(12) + x.count(13) + x.count(16), 15);
        for (int what = 0; what < 8; what++) DUE.is("count(" + what + ") as it was", x.count(what), due[what]);
    }

    public static void main(String[] args) {
        began();
        cases();
        effectOrNone();
        effectOfOne();
        chances();
        oneMoreThanFew();
        firstStreetNever();
        noneHelped();
        monthsOfOthers();
        count();
        DUE.finish();
    }
}
