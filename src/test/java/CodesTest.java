/** Promises 1 to 6: a new object, days, code, turn, stands, most. */
public final class CodesTest {
    private static final Due DUE = new Due();

    private static void newObject() {
        DoorStars x = new DoorStars();
        for (int what = 0; what <= 7; what++) DUE.is("new: count(" + what + ")", x.count(what), 0);
        for (int what = 11; what <= 17; what++) DUE.is("new: count(" + what + ")", x.count(what), 0);
        DUE.is("new: falses()", x.falses(), 0);
        DUE.is("new: doubles()", x.doubles(), 0);
        DUE.is("new: others()", x.others(), 0);
        DUE.is("new: rounds(1)", x.rounds(1), 0);
        DUE.is("new: chance()", x.chance(), -9);
        DUE.is("new: helped()", x.helped(), 0);
        for (int group = 0; group < 5; group++) DUE.is("new: most", x.most(group, 60), 60);
        for (int kind = 0; kind < 4; kind++) DUE.is("new: base", x.base(kind, 10), 10);
        for (int street = 0; street < 6; street++) {
            DUE.is("new: began", x.began(street, 12), 12);
            for (int month = 0; month < 12; month++) DUE.is("new: cases", x.cases(street, month, 0), 0);
        }
        DUE.is("new: capacity", x.capacity(2), 2);
        DUE.is("two objects are apart", new DoorStars().days(3) + new DoorStars().days(4), 7);
    }

    private static void days() {
        DoorStars x = new DoorStars();
        DUE.is("days(0)", x.days(0), -4);
        DUE.is("days(-1)", x.days(-1), -4);
        DUE.is("days(MIN)", x.days(Integer.MIN_VALUE), -4);
        DUE.is("days(1501)", x.days(1501), -6);
        DUE.is("days(MAX)", x.days(Integer.MAX_VALUE), -6);
        DUE.is("days(1)", x.days(1), 1);
        DUE.is("days(MAX) later", x.days(Integer.MAX_VALUE), -6);
        DUE.is("days(1500)", x.days(1500), -6);
        DUE.is("days(1499)", x.days(1499), 1500);
        DUE.is("days(1) at the end", x.days(1), -6);
        DUE.is("count(0)", x.count(0), 1500);
        DUE.is("count(14)", x.count(14), 3);
        DUE.is("count(16)", x.count(16), 5);
    }

    private static void code() {
        DoorStars x = new DoorStars();
        x.days(10);
        DUE.is("code(-1, 0, 10)", x.code(-1, 0, 10), -1);
        DUE.is("code(5, -1, 0)", x.code(5, -1, 0), -1);
        DUE.is("code(0, -1, 10)", x.code(0, -1, 10), -4);
        DUE.is("code(0, 0, 9)", x.code(0, 0, 9), -4);
        DUE.is("code(0, 51, 9): -4 is told first", x.code(0, 51, 9), -4);
        DUE.is("code(0, -1, 1501): -4 is told first", x.code(0, -1, 1501), -4);
        DUE.is("code(0, 51, 10)", x.code(0, 51, 10), -6);
        DUE.is("code(0, 0, 1501)", x.code(0, 0, 1501), -6);
        DUE.is("code(4, 50, 1500)", x.code(4, 50, 1500), 0);
        for (int i = 1; i < 40; i++) DUE.is("code " + i, x.code(i % 5, i, 10), i);
        DUE.is("the 41st code", x.code(0, 0, 10), -6);
        DUE.is("-4 ahead of no room", x.code(0, -1, 10), -4);
        DUE.is("count(1)", x.count(1), 40);
    }

    private static void turn() {
        DoorStars x = new DoorStars();
        x.days(5);
        for (int i = 0; i < 4; i++) x.code(i, 1, 5);
        DUE.is("turn(4, 5, 5)", x.turn(4, 5, 5), -1);
        DUE.is("turn(-1, 1, 5)", x.turn(-1, 1, 5), -1);
        DUE.is("turn(0, 4, 5)", x.turn(0, 4, 5), -1);
        DUE.is("turn(0, -1, 5)", x.turn(0, -1, 5), -1);
        DUE.is("turn(1, 1, 5)", x.turn(1, 1, 5), -3);
        DUE.is("turn(1, 0, 5)", x.turn(1, 0, 5), -3);
        DUE.is("turn(1, 0, 4): -3 first", x.turn(1, 0, 4), -3);
        DUE.is("turn(0, 1, 4)", x.turn(0, 1, 4), -4);
        DUE.is("turn(0, 1, 1501)", x.turn(0, 1, 1501), -6);
        DUE.is("turn(0, 1, 5)", x.turn(0, 1, 5), 1);
        DUE.is("turn(0, 2, 6) again", x.turn(0, 2, 6), -3);
        DUE.is("turn(1, 3, 1500)", x.turn(1, 3, 1500), 1);
        DUE.is("stands(0, 1500) after both", x.stands(0, 1500), 3);
    }

    private static void stands() {
        DoorStars x = new DoorStars();
        for (int i = 0; i < 5; i++) x.code(0, i, 0);
        x.turn(0, 1, 10);
        x.turn(1, 3, 5);
        x.turn(3, 4, 20);
        DUE.is("stands(0, 0)", x.stands(0, 0), 0);
        DUE.is("stands(0, 9)", x.stands(0, 9), 0);
        DUE.is("stands(0, 10): two at once", x.stands(0, 10), 3);
        DUE.is("stands(0, 19)", x.stands(0, 19), 3);
        DUE.is("stands(0, 20)", x.stands(0, 20), 4);
        DUE.is("stands(1, 4)", x.stands(1, 4), 1);
        DUE.is("stands(1, 5)", x.stands(1, 5), 3);
        DUE.is("stands(2, 1500)", x.stands(2, 1500), 2);
        DUE.is("stands(4, 1500)", x.stands(4, 1500), 4);
        DUE.is("stands(5, -1)", x.stands(5, -1), -1);
        DUE.is("stands(-1, 0)", x.stands(-1, 0), -1);
        DUE.is("stands(0, -1)", x.stands(0, -1), -4);
        DUE.is("stands(0, 1501)", x.stands(0, 1501), -6);
        DoorStars longest = new DoorStars();
        for (int i = 0; i < 40; i++) longest.code(0, 1, 0);
        for (int i = 0; i < 39; i++) longest.turn(i, i + 1, i);
        DUE.is("a chain over all codes", longest.stands(0, 1500), 39);
        DUE.is("a chain to day 20", longest.stands(0, 20), 21);
    }

    private static void most() {
        DoorStars x = new DoorStars();
        DUE.is("most(0, 0)", x.most(0, 0), 60);
        DUE.is("most(0, 200)", x.most(0, 200), 0);
        DUE.is("most(0, 201)", x.most(0, 201), -6);
        DUE.is("most(0, -1)", x.most(0, -1), -4);
        DUE.is("most(5, -1)", x.most(5, -1), -1);
        DUE.is("most(-1, 0)", x.most(-1, 0), -1);
        DUE.is("most(0, 7)", x.most(0, 7), 200);
        DUE.is("most(4, 8)", x.most(4, 8), 60);
        DUE.is("most(4, 8) again", x.most(4, 8), 8);
    }

    public static void main(String[] args) {
        newObject();
        days();
        code();
        turn();
        stands();
        most();
        DUE.finish();
    }
}
