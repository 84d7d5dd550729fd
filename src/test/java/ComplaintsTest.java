/** Promises 29 to 32: shut, complaint, part, joined. */
public final class ComplaintsTest {
    private static final Due DUE = new Due();

    private static void part(DoorStars x, int complaint, int kitchen, int above, int below) {
        String call = "part(" + complaint + ", " + kitchen + ", ";
        DUE.is(call + "0)", x.part(complaint, kitchen, 0), above);
        DUE.is(call + "1)", x.part(complaint, kitchen, 1), below);
    }

    private static void shut() {
        DoorStars x = new DoorStars();
        DUE.is("shut of none", x.shut(0, 1, 0), -1);
        x.kitchen(0, 0, 1, 0, 1);
        x.kitchen(0, 0, 1, 0, 1);
        DUE.is("shut(2, 0, 0)", x.shut(2, 0, 0), -1);
        DUE.is("shut(-1, 0, 0)", x.shut(-1, 0, 0), -1);
        DUE.is("shut(0, -1, 1501)", x.shut(0, -1, 1501), -4);
        DUE.is("shut(0, -2, -1)", x.shut(0, -2, -1), -4);
        DUE.is("shut(0, 1, 0)", x.shut(0, 1, 0), -4);
        DUE.is("shut(0, 1502, 1501)", x.shut(0, 1502, 1501), -4);
        DUE.is("shut(0, 0, 1501)", x.shut(0, 0, 1501), -6);
        DUE.is("shut(0, 1501, 1501)", x.shut(0, 1501, 1501), -6);
        for (int i = 1; i <= 8; i++) DUE.is("shut " + i, x.shut(0, 1500, 1500), i);
        DUE.is("the ninth", x.shut(0, 0, 0), -6);
        DUE.is("the ninth, -4 first", x.shut(0, 1, 0), -4);
        DUE.is("of another kitchen", x.shut(1, 0, 1500), 1);
    }

    private static void complaint() {
        DoorStars x = new DoorStars();
        DUE.is("complaint(6, 1, 0, 0)", x.complaint(6, 1, 0, 0), -1);
        DUE.is("complaint(-1, 0, 0, 0)", x.complaint(-1, 0, 0, 0), -1);
        DUE.is("complaint(0, 1, 0, 8)", x.complaint(0, 1, 0, 8), -1);
        DUE.is("complaint(0, 0, 0, -1)", x.complaint(0, 0, 0, -1), -1);
        DUE.is("complaint(0, -1, 1501, 0)", x.complaint(0, -1, 1501, 0), -4);
        DUE.is("complaint(0, 1502, 1501, 0)", x.complaint(0, 1502, 1501, 0), -4);
        DUE.is("complaint(0, 0, 1501, 0)", x.complaint(0, 0, 1501, 0), -6);
        for (int i = 0; i < 20; i++) DUE.is("complaint " + i, x.complaint(5, 0, 1500, 7), i);
        DUE.is("the 21st", x.complaint(0, 0, 0, 0), -6);
        DUE.is("the 21st, -4 first", x.complaint(0, 1, 0, 0), -4);
        DUE.is("the 21st, -1 first", x.complaint(0, 1, 0, 9), -1);
        DUE.is("count(6)", x.count(6), 20);
        DUE.is("count(7)", x.count(7), 0);
    }

    private static void parts() {
        DoorStars x = new DoorStars();
        x.kitchen(0, 1, 30, 0, 128);
        x.kitchen(0, 1, 20, 0, 129);
        x.kitchen(0, 2, 10, 0, 255);
        x.kitchen(0, 1, 10, 0, 127);
        DUE.is("part(0, 0, 0) of none", x.part(0, 0, 0), -1);
        x.complaint(1, 10, 19, 7);
        DUE.is("part(0, 4, 2)", x.part(0, 4, 2), -1);
        DUE.is("part(0, -1, 0)", x.part(0, -1, 0), -1);
        DUE.is("part(-1, 0, 0)", x.part(-1, 0, 0), -1);
        DUE.is("part(1, 0, 2)", x.part(1, 0, 2), -1);
        DUE.is("part(0, 0, 2)", x.part(0, 0, 2), -2);
        DUE.is("part(0, 0, -1)", x.part(0, 0, -1), -2);
        part(x, 0, 0, 3, 5);
        part(x, 0, 1, 2, 5);
        part(x, 0, 2, 0, 1);
        part(x, 0, 3, 0, 1);
        DUE.is("joined(0)", x.joined(0), 0);
        x.shut(0, 0, 9);
        x.shut(0, 20, 30);
        part(x, 0, 0, 3, 5);
        x.shut(0, 9, 10);
        part(x, 0, 0, 27, 47);
        x.shut(0, 19, 25);
        part(x, 0, 0, 6, 11);
        x.shut(0, 12, 14);
        x.shut(0, 13, 16);
        x.shut(0, 12, 12);
        // open are 11, 17 and 18
        part(x, 0, 0, 9, 29);
        DUE.is("joined(0) to the other", x.joined(0), 1);
        x.shut(0, 0, 1500);
        part(x, 0, 0, 0, 1);
        part(x, 0, 1, 1, 1);
        x.shut(1, 10, 19);
        part(x, 0, 1, 0, 1);
        DUE.is("joined(0) to none", x.joined(0), -9);
    }

    /** Every kitchen is shut eight times inside the days of the complaint. */
    private static void manyShuts() {
        DoorStars x = new DoorStars();
        for (int k = 0; k < 20; k++) {
            x.kitchen(0, k / 18, 10, 0, 1);
            for (int s = 7; s >= 0; s--) x.shut(k, 10 * s + 5, 10 * s + 5 + k % 2);
        }
        x.complaint(0, 0, 99, 0);
        x.complaint(1, 0, 99, 0);
        // 92 days or 84 are open
        part(x, 0, 0, 23, 9 * 44);
        part(x, 0, 17, 7, 3 * 44);
        part(x, 1, 18, 23, 44);
        part(x, 1, 19, 21, 44);
        DUE.is("joined(1)", x.joined(1), 18);
        DUE.is("joined(0)", x.joined(0), -9);
    }

    private static void joined() {
        DoorStars x = new DoorStars();
        DUE.is("joined(0) of none", x.joined(0), -1);
        DUE.is("joined(-1)", x.joined(-1), -1);
        x.complaint(0, 0, 9, 0);
        DUE.is("no kitchen", x.joined(0), -9);
        x.kitchen(0, 0, 50, 0, 1);
        DUE.is("the only one", x.joined(0), 0);
        x.kitchen(0, 0, 30, 0, 1);
        x.kitchen(0, 0, 20, 0, 1);
        DUE.is("a half is not more than a half", x.joined(0), -9);
        x.complaint(0, 5, 5, 0);
        x.shut(1, 4, 6);
        x.shut(2, 9, 9);
        DUE.is("a little more than a half", x.joined(0), 0);
        DUE.is("of one day", x.joined(1), 0);
        part(x, 1, 2, 2, 7);
        DUE.is("count(7)", x.count(7), 2);
        x.shut(0, 5, 5);
        DUE.is("the last one", x.joined(1), 2);
        DUE.is("450 of 450 and 210 and 180", x.joined(0), 0);
        x.kitchen(0, 0, 999, 0, 1);
        DUE.is("a later kitchen may be meant, too", x.joined(0), 3);
        DUE.is("refusals", x.count(11), 2);
    }

    public static void main(String[] args) {
        shut();
        complaint();
        parts();
        manyShuts();
        joined();
        DUE.finish();
    }
}
