/** Promises 21 to 23: capacity, rounds, roundOf. */
public final class RoundsTest {
    private static final Due DUE = new Due();

    /** Kitchens without a look: due is 0, so at day t each costs its risk times t (t below 30). */
    private static DoorStars kitchens(int... risks) {
        DoorStars x = new DoorStars();
        for (int i = 0; i < risks.length; i++) {
            x.kitchen(0, 0, (risks[i] - 34) * 50 + 1, i % 10, 0);
            DUE.is("risk " + i, x.risk(i, 0), risks[i]);
        }
        return x;
    }

    private static void capacity() {
        DoorStars x = new DoorStars();
        DUE.is("capacity(0)", x.capacity(0), -4);
        DUE.is("capacity(10)", x.capacity(10), -6);
        DUE.is("capacity(9)", x.capacity(9), 2);
        DUE.is("capacity(1)", x.capacity(1), 9);
        DUE.is("capacity(1) again", x.capacity(1), 1);
    }

    private static void refusals() {
        DoorStars x = kitchens(34);
        DUE.is("rounds(0)", x.rounds(0), -4);
        DUE.is("rounds(4)", x.rounds(4), -6);
        DUE.is("roundOf(0, 1, 2)", x.roundOf(0, 1, 2), -1);
        DUE.is("roundOf(0, -1, 2)", x.roundOf(0, -1, 2), -1);
        DUE.is("roundOf(0, 0, 2)", x.roundOf(0, 0, 2), -2);
        DUE.is("roundOf(0, 0, -1)", x.roundOf(0, 0, -1), -2);
        DUE.is("roundOf(0, 0, 0)", x.roundOf(0, 0, 0), -4);
        DUE.is("roundOf(4, 0, 0)", x.roundOf(4, 0, 0), -6);
        x.days(1493);
        DUE.is("rounds(1), now and 7 is 1500", x.rounds(1), x.delay(0, 1493));
        DUE.is("roundOf(1, 0, 0) then", x.roundOf(1, 0, 0), 1493);
        x.days(1);
        DUE.is("rounds(1), now and 7 is 1501", x.rounds(1), -6);
        DUE.is("rounds(0) then", x.rounds(0), -4);
        DUE.is("roundOf(1, 0, 0) a day on", x.roundOf(1, 0, 0), -6);
        DUE.is("roundOf(1, 0, 2) a day on", x.roundOf(1, 0, 2), -2);
    }

    private static void dueAheadOfTheWeek() {
        DoorStars x = kitchens(34, 34);
        x.days(20);
        x.look(0, 0, 7);
        x.look(1, 0, 6);
        DUE.is("due 27 is not ahead of 27", x.risk(0, 1), 27);
        DUE.is("due 26 is", x.risk(1, 1), 26);
        DUE.is("nothing costs yet", x.rounds(1), 0);
        DUE.is("kitchen 0 is not among these", x.roundOf(1, 0, 0), -9);
        DUE.is("kitchen 0 has no hands", x.roundOf(1, 0, 1), 0);
        DUE.is("kitchen 1 on the first day", x.roundOf(1, 1, 0), 20);
        DUE.is("kitchen 1 by inspector 0", x.roundOf(1, 1, 1), 1);
        x.kin(0, 1, true);
        DUE.is("none may: twice the cost at 27", x.rounds(1), 2 * 34);
        DUE.is("kitchen 1 not in this week", x.roundOf(1, 1, 0), -9);
        DUE.is("kitchen 1 has no hands", x.roundOf(1, 1, 1), 0);
        DUE.is("another may", x.rounds(2), 0);
        DUE.is("by inspector 1", x.roundOf(2, 1, 1), 2);
    }

    private static void theLeastCost() {
        DoorStars x = new DoorStars();
        x.kitchen(0, 0, 1, 0, 0);
        x.base(0, 1);
        x.table(0, 1, 1, 1, 1);
        x.look(0, 0, 0);
        x.days(393);
        DUE.is("due", x.risk(0, 1), 400);
        DUE.is("due is not ahead", x.roundOf(1, 0, 0), -9);
        x.days(1);
        DUE.is("a cost of 1 at now and 7", x.delay(0, 401), 1);
        DUE.is("it is among these", x.roundOf(1, 0, 0), 394);
    }

    private static void sixAtMost() {
        DoorStars x = kitchens(36, 35, 35, 34, 36, 35, 36, 35);
        x.capacity(9);
        DUE.is("six at day 0 cost nothing", x.rounds(1), 0);
        int[] due = {0, 0, 0, -9, 0, 0, 0, -9};
        for (int k = 0; k < 8; k++) DUE.is("kitchen " + k, x.roundOf(1, k, 0), due[k]);
        for (int k = 0; k < 8; k++) DUE.is("hands of " + k, x.roundOf(1, k, 1), due[k] == 0 ? 1 : 0);
        x.days(7);
        DUE.is("all on the first day", x.rounds(1), 7 * (36 * 3 + 35 * 3));
        x.kin(0, 4, true);
        DUE.is("one is left out for kin, and no other comes in", x.rounds(1), 7 * (36 * 2 + 35 * 3) + 2 * 14 * 36);
        DUE.is("kitchen 7 still not among these", x.roundOf(1, 7, 0), -9);
    }

    private static void tooMany() {
        DoorStars x = kitchens(34, 35, 36, 37, 38, 39);
        x.capacity(1);
        DUE.is("the least risk is left out", x.rounds(1), 38 + 37 * 2 + 36 * 3 + 35 * 4 + 34 * 14);
        int[] due = {-9, 4, 3, 2, 1, 0};
        for (int k = 0; k < 6; k++) DUE.is("day of " + k, x.roundOf(1, k, 0), due[k]);
        DUE.is("two inspectors", x.rounds(2), 37 + 36 + 35 * 2 + 34 * 2);
        int[] hands = {1, 2, 1, 2, 1, 2};
        for (int k = 0; k < 6; k++) DUE.is("hands of " + k, x.roundOf(2, k, 1), hands[k]);
        DUE.is("three inspectors", x.rounds(3), 36 + 35 + 34);
        int[] three = {1, 2, 4, 1, 2, 4};
        for (int k = 0; k < 6; k++) DUE.is("hands of " + k + " of three", x.roundOf(3, k, 1), three[k]);
        x.hard(5, true);
        DUE.is("a hard one and one inspector", x.rounds(1), 37 + 36 * 2 + 35 * 3 + 34 * 4 + 2 * 39 * 7);
        DUE.is("it is left out", x.roundOf(1, 5, 0), -9);
        DUE.is("a hard one and three: three others go first", x.rounds(3), 39 + 35 + 34 * 2);
        DUE.is("its day", x.roundOf(3, 5, 0), 1);
        DUE.is("two hands", x.roundOf(3, 5, 1), 6);
        DUE.is("the third hand", x.roundOf(3, 1, 1), 1);
        x.kin(2, 5, true);
        DUE.is("the two that may", x.roundOf(3, 5, 1), 3);
        DUE.is("and the third hand then", x.roundOf(3, 1, 1), 4);
    }

    /** Alike kitchens: the first has the earliest day and then the lowest hands, then the next. */
    private static void alike() {
        DoorStars x = kitchens(34, 34, 34, 34, 34, 34);
        x.capacity(1);
        int[] day = {0, 0, 0, 1, 1, 1};
        int[] hands = {1, 2, 4, 1, 2, 4};
        for (int k = 0; k < 6; k++) {
            DUE.is("day of " + k, x.roundOf(3, k, 0), day[k]);
            DUE.is("hands of " + k, x.roundOf(3, k, 1), hands[k]);
        }
        x.kin(1, 2, true);
        x.kin(2, 2, true);
        DUE.is("kitchen 2 may have inspector 0 only", x.rounds(3), 3 * 34);
        DUE.is("so kitchen 0 has inspector 0 on day 0", x.roundOf(3, 0, 0) * 10 + x.roundOf(3, 0, 1), 1);
        DUE.is("and kitchen 1 inspector 1 on day 0", x.roundOf(3, 1, 0) * 10 + x.roundOf(3, 1, 1), 2);
        DUE.is("and kitchen 2 waits", x.roundOf(3, 2, 0) * 10 + x.roundOf(3, 2, 1), 11);
        DUE.is("and kitchen 3 has inspector 2", x.roundOf(3, 3, 0) * 10 + x.roundOf(3, 3, 1), 4);
        for (int k = 0; k < 6; k++) x.hard(k, true);
        DUE.is("hard ones: one a day, one left out", x.rounds(2), 34 * (1 + 2 + 3 + 4) + 2 * 34 * 7);
        DUE.is("kitchen 2 is left out for kin", x.roundOf(2, 2, 0), -9);
        x.kin(1, 2, false);
        DUE.is("without kin the last is left out", x.rounds(2), 34 * (1 + 2 + 3 + 4) + 2 * 34 * 7);
        DUE.is("none comes last", x.roundOf(2, 5, 0), -9);
        for (int k = 0; k < 5; k++) DUE.is("day of hard " + k, x.roundOf(2, k, 0), k);
        x.capacity(2);
        DUE.is("twice the room", x.rounds(2), 34 * 2 * (1 + 2));
        DUE.is("three hands, two looks each", x.rounds(3), 34 * 3);
        DUE.is("kitchen 0", x.roundOf(3, 0, 1), 3);
        DUE.is("kitchen 1", x.roundOf(3, 1, 1), 5);
        DUE.is("kitchen 2 has no inspector 2", x.roundOf(3, 2, 0) * 10 + x.roundOf(3, 2, 1), 13);
        DUE.is("kitchen 3", x.roundOf(3, 3, 0) * 10 + x.roundOf(3, 3, 1), 6);
        DUE.is("kitchen 4", x.roundOf(3, 4, 0) * 10 + x.roundOf(3, 4, 1), 15);
        DUE.is("kitchen 5", x.roundOf(3, 5, 0) * 10 + x.roundOf(3, 5, 1), 16);
    }

    private static void changesNothing() {
        DoorStars x = kitchens(34, 35);
        x.rounds(3);
        x.roundOf(2, 1, 0);
        DUE.is("no look was made", x.count(3), 0);
        DUE.is("the same again", x.rounds(3), 0);
    }

    public static void main(String[] args) {
        capacity();
        refusals();
        dueAheadOfTheWeek();
        theLeastCost();
        sixAtMost();
        tooMany();
        alike();
        changesNothing();
        DUE.finish();
    }
}
