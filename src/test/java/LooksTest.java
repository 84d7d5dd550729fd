/** Promises 7 to 13: kitchen, hard, kin, look, find, back, score. */
public final class LooksTest {
    private static final Due DUE = new Due();

    private static void kitchen() {
        DoorStars x = new DoorStars();
        DUE.is("kitchen(4, 6, ..): -2 first", x.kitchen(4, 6, 0, 10, 256), -2);
        DUE.is("kitchen(-1, ..)", x.kitchen(-1, 0, 1, 0, 0), -2);
        DUE.is("kitchen(0, 6, 0, ..): -1 first", x.kitchen(0, 6, 0, 0, 256), -1);
        DUE.is("kitchen(0, -1, ..)", x.kitchen(0, -1, 1, 0, 0), -1);
        DUE.is("kitchen owner 10", x.kitchen(0, 0, 1, 10, 0), -1);
        DUE.is("kitchen owner -1", x.kitchen(0, 0, 0, -1, 0), -1);
        DUE.is("kitchen mouths 0, dishes 256: -4 first", x.kitchen(0, 0, 0, 0, 256), -4);
        DUE.is("kitchen dishes -1, mouths 1000: -4 first", x.kitchen(0, 0, 1000, 0, -1), -4);
        DUE.is("kitchen mouths 1000", x.kitchen(0, 0, 1000, 0, 0), -6);
        DUE.is("kitchen dishes 256", x.kitchen(0, 0, 1, 0, 256), -6);
        DUE.is("kitchen 0", x.kitchen(3, 5, 999, 9, 255), 0);
        for (int i = 1; i < 20; i++) DUE.is("kitchen " + i, x.kitchen(0, 0, 1, 0, 0), i);
        DUE.is("the 21st", x.kitchen(0, 0, 1, 0, 0), -6);
        DUE.is("the 21st of no kind", x.kitchen(4, 0, 1, 0, 0), -2);
        DUE.is("count(2)", x.count(2), 20);
    }

    private static void hardAndKin() {
        DoorStars x = new DoorStars();
        DUE.is("hard(0, true) of none", x.hard(0, true), -1);
        x.kitchen(0, 0, 1, 0, 0);
        DUE.is("hard(0, false)", x.hard(0, false), 0);
        DUE.is("hard(0, true)", x.hard(0, true), 1);
        DUE.is("hard(0, true) again", x.hard(0, true), 0);
        DUE.is("hard(0, false) then", x.hard(0, false), 1);
        DUE.is("hard(1, true)", x.hard(1, true), -1);
        DUE.is("hard(-1, true)", x.hard(-1, true), -1);
        DUE.is("kin(0, 0, false)", x.kin(0, 0, false), 0);
        DUE.is("kin(4, 9, true)", x.kin(4, 9, true), 1);
        DUE.is("kin(4, 9, true) again", x.kin(4, 9, true), 0);
        DUE.is("kin(3, 9, false)", x.kin(3, 9, false), 0);
        DUE.is("kin(4, 9, false)", x.kin(4, 9, false), 1);
        DUE.is("kin(4, 9, false) again", x.kin(4, 9, false), 0);
        DUE.is("kin(5, 0, true)", x.kin(5, 0, true), -1);
        DUE.is("kin(-1, 0, true)", x.kin(-1, 0, true), -1);
        DUE.is("kin(0, 10, true)", x.kin(0, 10, true), -1);
        DUE.is("kin(0, -1, true)", x.kin(0, -1, true), -1);
    }

    private static void look() {
        DoorStars x = new DoorStars();
        DUE.is("look at no kitchen", x.look(0, 0, 0), -1);
        x.kitchen(0, 0, 1, 3, 0);
        x.days(10);
        x.kin(1, 3, true);
        DUE.is("look by inspector 5", x.look(0, 5, 0), -1);
        DUE.is("look by inspector -1", x.look(0, -1, 0), -1);
        DUE.is("look by kin, -7 first", x.look(0, 1, 11), -7);
        DUE.is("look behind now", x.look(0, 0, 11), -3);
        DUE.is("look at MAX", x.look(0, 0, Integer.MAX_VALUE), -3);
        DUE.is("look at -1", x.look(0, 0, -1), -4);
        DUE.is("look at MIN", x.look(0, 0, Integer.MIN_VALUE), -4);
        DUE.is("look 0", x.look(0, 0, 10), 0);
        DUE.is("look 1", x.look(0, 4, 0), 1);
        x.kin(1, 3, false);
        DUE.is("look 2 by one who is kin no more", x.look(0, 1, 5), 2);
        for (int i = 3; i < 80; i++) DUE.is("look " + i, x.look(0, 0, 1), i);
        DUE.is("the 81st", x.look(0, 0, 1), -6);
        DUE.is("the 81st at -1: -4 first", x.look(0, 0, -1), -4);
        DUE.is("count(3)", x.count(3), 80);
        DUE.is("count(17)", x.count(17), 1);
    }

    private static void find() {
        DoorStars x = new DoorStars();
        x.kitchen(0, 0, 1, 0, 0);
        DUE.is("find of no code", x.find(0, 0), -1);
        x.code(0, 1, 0);
        x.code(0, 2, 5);
        DUE.is("find(-1, 1)", x.find(-1, 1), -1);
        DUE.is("find(2, 1)", x.find(2, 1), -1);
        DUE.is("find without a look, -3 first", x.find(0, 0), -3);
        x.days(5);
        x.look(0, 0, 4);
        DUE.is("find of a code not yet in force", x.find(1, 10), -3);
        x.look(0, 0, 5);
        DUE.is("find of a code in force from that day", x.find(1, 9), 9);
        DUE.is("find(0, 0)", x.find(0, 0), -4);
        DUE.is("find(0, -5)", x.find(0, -5), -4);
        DUE.is("find(0, 10)", x.find(0, 10), -6);
        DUE.is("find(0, MAX)", x.find(0, Integer.MAX_VALUE), -6);
        for (int i = 2; i <= 11; i++) DUE.is("find(1, 9), time " + i, x.find(1, 9), 9 * i);
        DUE.is("100 of one code", x.find(1, 1), -6);
        DUE.is("another code has room", x.find(0, 9), 9);
        DUE.is("score of the latest", x.score(1, 5), 60);
        DUE.is("score of the one ahead of it", x.score(0, 5), 0);
        x.back(0);
        DUE.is("find when another was taken back", x.find(0, 1), 10);
        x.back(1);
        DUE.is("find when it was taken back", x.find(0, 1), -3);
        x.look(0, 0, 5);
        DUE.is("find in a new look", x.find(1, 1), 1);
        x.turn(1, 0, 5);
        x.code(0, 3, 5);
        x.turn(1, 2, 5);
        DUE.is("a turned code is still in force", x.find(1, 1), 2);
    }

    private static void back() {
        DoorStars x = new DoorStars();
        x.kitchen(0, 0, 1, 0, 0);
        DUE.is("back(0) of none", x.back(0), -1);
        x.look(0, 0, 0);
        x.look(0, 0, 0);
        DUE.is("back(-1)", x.back(-1), -1);
        DUE.is("back(2)", x.back(2), -1);
        DUE.is("back(1)", x.back(1), 1);
        DUE.is("back(1) again", x.back(1), -3);
        DUE.is("back(0)", x.back(0), 1);
        DUE.is("count(4)", x.count(4), 2);
        DUE.is("count(3)", x.count(3), 2);
    }

    private static void score() {
        DoorStars x = new DoorStars();
        x.kitchen(0, 0, 1, 0, 0);
        x.code(0, 10, 0);
        x.code(1, 50, 0);
        x.code(0, 7, 0);
        x.code(2, 1, 0);
        x.look(0, 0, 0);
        DUE.is("score of a look without findings", x.score(0, 0), 0);
        x.find(0, 2);
        x.find(1, 1);
        x.find(2, 3);
        DUE.is("sum over groups", x.score(0, 0), 20 + 21 + 50);
        x.find(2, 3);
        DUE.is("a group's most", x.score(0, 0), 60 + 50);
        x.most(0, 61);
        DUE.is("a greater most", x.score(0, 0), 61 + 50);
        x.most(1, 0);
        DUE.is("a most of 0", x.score(0, 0), 61);
        x.turn(0, 3, 7);
        DUE.is("as of the day ahead of the turn", x.score(0, 6), 61);
        DUE.is("as of the turn", x.score(0, 7), 42 + 2);
        DUE.is("as of the last day", x.score(0, 1500), 44);
        x.back(0);
        DUE.is("of one that was taken back", x.score(0, 7), 44);
        DUE.is("score(1, -1)", x.score(1, -1), -1);
        DUE.is("score(-1, 0)", x.score(-1, 0), -1);
        DUE.is("score(0, -1)", x.score(0, -1), -4);
        DUE.is("score(0, 1501)", x.score(0, 1501), -6);
    }

    public static void main(String[] args) {
        kitchen();
        hardAndKin();
        look();
        find();
        back();
        score();
        DUE.finish();
    }
}
