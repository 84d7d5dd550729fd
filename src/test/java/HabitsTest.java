/** Promises 24 to 28: doubles, habit, evened, others, swap. */
public final class HabitsTest {
    private static final Due DUE = new Due();
    private static final long REFUSED = 4000000000000000000L;

    /** One code of a point, groups without a narrow most, and so many kitchens. */
    private static DoorStars town(int kitchens) {
        DoorStars x = new DoorStars();
        x.code(0, 1, 0);
        x.most(0, 200);
        for (int k = 0; k < kitchens; k++) x.kitchen(0, 0, 1, 0, 0);
        return x;
    }

    private static void look(DoorStars x, int kitchen, int inspector, int score) {
        x.look(kitchen, inspector, x.count(0));
        for (int left = score; left > 0; left -= 9) x.find(0, Math.min(9, left));
    }

    private static void habit(DoorStars x, int inspector, long above, long below) {
        DUE.is("habit(" + inspector + ", 0)", x.habit(inspector, 0), above);
        DUE.is("habit(" + inspector + ", 1)", x.habit(inspector, 1), below);
    }

    private static void refusals() {
        DoorStars x = town(1);
        DUE.is("habit(5, 2)", x.habit(5, 2), REFUSED + 1);
        DUE.is("habit(-1, 0)", x.habit(-1, 0), REFUSED + 1);
        DUE.is("habit(0, 2)", x.habit(0, 2), REFUSED + 2);
        DUE.is("habit(0, -1)", x.habit(0, -1), REFUSED + 2);
        DUE.is("habit(0, 0)", x.habit(0, 0), REFUSED + 3);
        DUE.is("evened(0, 2)", x.evened(0, 2), REFUSED + 1);
        DUE.is("evened(-1, 0)", x.evened(-1, 0), REFUSED + 1);
        look(x, 0, 0, 5);
        DUE.is("evened(0, 2) of a look", x.evened(0, 2), REFUSED + 2);
        DUE.is("evened(0, -1) of a look", x.evened(0, -1), REFUSED + 2);
        DUE.is("evened(1, 0)", x.evened(1, 0), REFUSED + 1);
        DUE.is("count(11)", x.count(11), 5);
        DUE.is("count(12)", x.count(12), 4);
        DUE.is("count(13)", x.count(13), 1);
    }

    private static void doubles() {
        DoorStars x = town(2);
        look(x, 0, 0, 1);
        look(x, 0, 0, 2);
        DUE.is("one inspector twice", x.doubles(), 0);
        look(x, 1, 1, 1);
        DUE.is("two kitchens", x.doubles(), 0);
        x.days(1);
        look(x, 0, 1, 1);
        DUE.is("two days", x.doubles(), 0);
        x.look(0, 2, 0);
        DUE.is("each with each", x.doubles(), 2);
        x.look(1, 0, 0);
        DUE.is("told later of one day", x.doubles(), 3);
        x.back(0);
        DUE.is("one taken back", x.doubles(), 2);
        x.back(4);
        DUE.is("two taken back", x.doubles(), 1);
    }

    private static void joinedByWay() {
        DoorStars x = town(3);
        look(x, 0, 1, 10);
        look(x, 0, 3, 14);
        look(x, 1, 3, 2);
        look(x, 1, 4, 1);
        habit(x, 1, 0, 1);
        habit(x, 3, 4, 1);
        habit(x, 4, 3, 1);
        DUE.is("inspector 0 in no double", x.habit(0, 0), REFUSED + 3);
        DUE.is("inspector 2 in no double", x.habit(2, 1), REFUSED + 3);
        look(x, 2, 0, 7);
        look(x, 2, 2, 9);
        habit(x, 0, 0, 1);
        habit(x, 2, 2, 1);
        habit(x, 4, 3, 1);
        look(x, 1, 2, 2);
        DUE.is("one joined set now", x.doubles(), 5);
        habit(x, 0, 0, 1);
        habit(x, 2, 2, 1);
        // 3 less 2 is 0, 4 less 2 is -1 and 4 less 3 is -1: all three agree
        habit(x, 3, 2, 1);
        habit(x, 4, 1, 1);
        habit(x, 1, -2, 1);
        x.back(5);
        habit(x, 1, 0, 1);
        habit(x, 2, 4, 1);
        DUE.is("inspector 0 again in none", x.habit(0, 0), REFUSED + 3);
    }

    private static void leastSquares() {
        DoorStars x = town(3);
        look(x, 0, 0, 10);
        look(x, 0, 1, 13);
        look(x, 1, 0, 10);
        look(x, 1, 1, 11);
        habit(x, 1, 2, 1);
        look(x, 2, 1, 5);
        look(x, 2, 2, 6);
        look(x, 2, 0, 20);
        // 3 (h1) twice with 0: 3, 1, -15; 1 with 2: 1 up; 0 with 2: -14
        // 4 h1 - h2 = 3 + 1 - 15 - 1; 2 h2 - h1 = 1 - 14
        habit(x, 1, -37, 7);
        habit(x, 2, -64, 7);
        DUE.is("evened(5, 0)", x.evened(5, 0), 6 * 7 + 64);
        DUE.is("evened(5, 1)", x.evened(5, 1), 7);
        DUE.is("evened(0, 0)", x.evened(0, 0), 10);
        DUE.is("evened(0, 1)", x.evened(0, 1), 1);
        x.back(1);
        DUE.is("of one that was taken back, too", x.evened(1, 1) > 0 ? 1 : 0, 1);
        look(x, 0, 4, 3);
        look(x, 0, 4, 3);
        x.back(0);
        DUE.is("an inspector in no double", x.evened(8, 0), 3);
        DUE.is("and 1 below", x.evened(8, 1), 1);
    }

    private static void wide() {
        DoorStars x = new DoorStars();
        for (int g = 0; g < 5; g++) {
            x.code(g, 50, 0);
            x.most(g, 200);
        }
        x.kitchen(0, 0, 1, 0, 0);
        for (int i = 0; i < 80; i++) {
            x.look(0, i % 5, 0);
            for (int g = 0; g < i % 5; g++) x.find(g, 9);
            if (i == 79) x.find(4, 9);
        }
        DUE.is("the most doubles", x.doubles(), 10 * 256);
        habit(x, 1, 200, 1);
        habit(x, 2, 400, 1);
        habit(x, 3, 600, 1);
        habit(x, 4, 800 * 2 + 25, 2);
    }

    private static void ownDays() {
        DoorStars x = town(2);
        x.code(0, 3, 5);
        x.look(0, 0, 0);
        x.find(0, 4);
        x.look(0, 1, 0);
        x.find(0, 6);
        x.turn(0, 1, 5);
        x.days(9);
        DUE.is("score as of now", x.score(1, 9), 18);
        habit(x, 1, 2, 1);
        DUE.is("evened as of its own day", x.evened(1, 0), 4);
    }

    private static void others() {
        DoorStars x = town(4);
        look(x, 0, 0, 6);
        look(x, 0, 1, 8);
        look(x, 1, 1, 7);
        look(x, 2, 1, 9);
        look(x, 3, 2, 9);
        DUE.is("no table, no star", x.others(), 0);
        x.table(0, 5, 7, 7, 7);
        // habit of 1 is 2: kitchen 0 has 6 for 8, kitchen 1 has 5 for 7, kitchen 2 has 7 for 9
        DUE.is("two would be other", x.others(), 2);
        x.table(0, 5, 6, 6, 7);
        DUE.is("6 is not below 6, 5 not below 5", x.others(), 2);
        x.table(0, 0, 5, 6, 7);
        DUE.is("5 is below 6, 6 below 7", x.others(), 2);
        DUE.is("stars stay", x.star(1, 0, 0), 1);
        x.table(0, 0, 0, 0, 8);
        DUE.is("8 is not below 8: 6 is; 7 for 9 is", x.others(), 2);
        x.table(0, 0, 0, 0, 7);
        DUE.is("6 is below 7, 5 is", x.others(), 2);
        x.back(0);
        DUE.is("no habits, none other", x.others(), 0);
    }

    private static void evenedFirst() {
        DoorStars x = town(2);
        look(x, 0, 1, 7);
        look(x, 1, 0, 5);
        look(x, 1, 1, 8);
        DUE.is("evened ahead of any habit", x.evened(0, 0), 4);
        x.table(0, 5, 5, 5, 5);
        DUE.is("the first look is the latest of its kitchen", x.others(), 1);
        x.back(2);
        DUE.is("evened when the double is gone", x.evened(0, 0), 7);
        DUE.is("others then", x.others(), 0);
    }

    private static void trulyBelow() {
        DoorStars x = town(2);
        look(x, 0, 0, 0);
        look(x, 0, 1, 1);
        look(x, 0, 1, 2);
        look(x, 0, 1, 2);
        habit(x, 1, 5, 3);
        look(x, 1, 1, 4);
        DUE.is("evened 7 by 3", x.evened(4, 0), 7);
        x.table(0, 2, 2, 2, 2);
        DUE.is("7 by 3 is not below 2; 1 by 3 is", x.others(), 1);
        x.table(0, 0, 0, 0, 3);
        DUE.is("7 by 3 is below 3", x.others(), 1);
        x.days(1);
        look(x, 0, 1, 1);
        x.table(1, 0, 0, 0, 0);
        DUE.is("below 0 is below a bound of 0", x.others(), 2);
    }

    private static void swap() {
        DoorStars x = new DoorStars();
        DUE.is("swap(-1, 6, 9)", x.swap(-1, 6, 9), -4);
        DUE.is("swap(10000, 1, 9)", x.swap(10000, 1, 9), -4);
        DUE.is("swap(10000, 5, 9)", x.swap(10000, 5, 9), -6);
        DUE.is("swap(0, 6, 9)", x.swap(0, 6, 9), -6);
        DUE.is("swap(0, 5, 5)", x.swap(0, 5, 5), -1);
        DUE.is("swap(0, 5, -1)", x.swap(0, 5, -1), -1);
        DUE.is("swap(0, 2, 2)", x.swap(0, 2, 2), -1);
        // 1: 138, even: 1 and 0 are swapped; 0: 101, odd: not
        DUE.is("swap(1, 2, 0)", x.swap(1, 2, 0), 1);
        DUE.is("swap(1, 2, 1)", x.swap(1, 2, 1), 0);
        DUE.is("swap(0, 2, 1)", x.swap(0, 2, 1), 1);
        int[] five = {4, 3, 2, 0, 1};
        for (int i = 0; i < 5; i++) DUE.is("swap(5, 5, " + i + ")", x.swap(5, 5, i), five[i]);
        for (int seed = 0; seed <= 9999; seed += 101) {
            int all = 0;
            for (int i = 0; i < 4; i++) all |= 1 << x.swap(seed, 4, i);
            DUE.is("each has the rounds of one, seed " + seed, all, 15);
        }
    }

    public static void main(String[] args) {
        refusals();
        doubles();
        joinedByWay();
        leastSquares();
        wide();
        ownDays();
        others();
        evenedFirst();
        trulyBelow();
        swap();
        DUE.finish();
    }
}
