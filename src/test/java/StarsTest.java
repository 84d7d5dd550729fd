/** Promises 14 to 20: table, star, show, falses, base, risk, delay. */
public final class StarsTest {
    private static final Due DUE = new Due();

    private static void table() {
        DoorStars x = new DoorStars();
        x.days(3);
        DUE.is("table of a day ahead of now", x.table(2, 0, 0, 0, 1000), -4);
        DUE.is("table(3, -1, ..)", x.table(3, -1, 0, 0, 0), -4);
        DUE.is("b4 above b3", x.table(3, 2, 1, 3, 1000), -4);
        DUE.is("b3 above b2", x.table(3, 1, 3, 2, 4), -4);
        DUE.is("b2 above b1", x.table(3, 1, 2, 4, 3), -4);
        DUE.is("b1 1000", x.table(3, 0, 0, 0, 1000), -6);
        DUE.is("all 1000", x.table(3, 1000, 1000, 1000, 1000), -6);
        DUE.is("day 1501", x.table(1501, 0, 0, 0, 0), -6);
        DUE.is("table 0", x.table(1500, 999, 999, 999, 999), 0);
        for (int i = 1; i < 10; i++) DUE.is("table " + i, x.table(3, 0, 0, 0, 0), i);
        DUE.is("the 11th", x.table(3, 0, 0, 0, 0), -6);
        DUE.is("the 11th, -4 first", x.table(2, 0, 0, 0, 0), -4);
        DUE.is("count(5)", x.count(5), 10);
    }

    private static void starByBounds() {
        DoorStars x = new DoorStars();
        x.kitchen(0, 0, 1, 0, 0);
        x.code(0, 1, 0);
        x.table(0, 1, 3, 3, 5);
        int[] due = {5, 4, 4, 2, 2, 1, 1};
        for (int score = 0; score < due.length; score++) {
            x.look(0, 0, 0);
            if (score > 0) x.find(0, score);
            DUE.is("star of score " + score, x.star(0, 0, 0), due[score]);
        }
    }

    private static void starByTablesInForce() {
        DoorStars x = new DoorStars();
        x.kitchen(0, 0, 1, 0, 0);
        x.table(10, 0, 0, 0, 1);
        x.table(5, 0, 0, 1, 1);
        x.table(10, 0, 1, 1, 1);
        x.table(20, 1, 1, 1, 1);
        x.table(7, 0, 0, 1, 1);
        x.days(30);
        int[] days = {0, 4, 5, 9, 10, 19, 20, 30};
        int[] due = {0, 0, 3, 3, 4, 4, 5, 5};
        for (int i = 0; i < days.length; i++) {
            x.look(0, 0, days[i]);
            DUE.is("star of a look of day " + days[i], x.star(0, days[i], 30), due[i]);
            x.back(i);
        }
        x.look(0, 0, 4);
        DUE.is("the table of the look's day, not of now", x.star(0, 30, 30), 0);
    }

    private static void starAsOf() {
        DoorStars x = new DoorStars();
        x.kitchen(0, 0, 1, 0, 0);
        x.kitchen(0, 0, 1, 0, 0);
        x.code(0, 1, 0);
        x.code(0, 50, 0);
        x.table(0, 1, 2, 3, 4);
        x.look(0, 0, 0);
        x.find(0, 1);
        x.days(10);
        x.look(0, 0, 8);
        x.find(0, 2);
        x.days(10);
        x.look(0, 0, 3);
        x.find(0, 3);
        x.look(1, 0, 20);
        DUE.is("the latest day, not the greatest number", x.star(0, 20, 20), 3);
        DUE.is("on day 7", x.star(0, 7, 20), 2);
        DUE.is("on day 7 as of 19", x.star(0, 7, 19), 4);
        DUE.is("on day 8 as of 10", x.star(0, 8, 10), 3);
        DUE.is("on day 8 as of 9", x.star(0, 8, 9), 4);
        DUE.is("on day 1500 as of 1500", x.star(0, 1500, 1500), 3);
        x.days(1);
        x.back(1);
        DUE.is("as of the day it was taken back", x.star(0, 20, 21), 2);
        DUE.is("as of the day ahead of it", x.star(0, 20, 20), 3);
        DUE.is("of the other", x.star(1, 21, 21), 5);
        DUE.is("of the other ahead of its look", x.star(1, 19, 21), 0);
        x.turn(0, 1, 21);
        DUE.is("codes of the look's own day", x.star(0, 21, 21), 2);
        DUE.is("star(2, -1, -1)", x.star(2, -1, -1), -1);
        DUE.is("star(-1, 0, 0)", x.star(-1, 0, 0), -1);
        DUE.is("star(0, -1, 1501)", x.star(0, -1, 1501), -4);
        DUE.is("star(0, 1501, -1)", x.star(0, 1501, -1), -4);
        DUE.is("star(0, 1501, 0)", x.star(0, 1501, 0), -6);
        DUE.is("star(0, 0, 1501)", x.star(0, 0, 1501), -6);
    }

    private static void shown() {
        DoorStars x = new DoorStars();
        DUE.is("show of none", x.show(0, -1), -1);
        for (int i = 0; i < 3; i++) x.kitchen(0, 0, 1, 0, 0);
        DUE.is("show(0, -1)", x.show(0, -1), -4);
        DUE.is("show(0, 6)", x.show(0, 6), -6);
        DUE.is("show(3, 0)", x.show(3, 0), -1);
        DUE.is("falses at first", x.falses(), 0);
        DUE.is("show(0, 5)", x.show(0, 5), 0);
        DUE.is("show(0, 1)", x.show(0, 1), 5);
        DUE.is("above no star", x.falses(), 1);
        x.table(0, 1, 1, 1, 1);
        x.look(0, 0, 0);
        x.look(1, 0, 0);
        x.show(1, 5);
        DUE.is("as much as the star", x.falses(), 0);
        x.back(1);
        DUE.is("the look was taken back", x.falses(), 1);
        x.show(2, 3);
        DUE.is("two of them", x.falses(), 2);
        x.show(1, 0);
        x.show(2, 0);
        DUE.is("none", x.falses(), 0);
    }

    private static void base() {
        DoorStars x = new DoorStars();
        DUE.is("base(4, 0)", x.base(4, 0), -2);
        DUE.is("base(-1, 1)", x.base(-1, 1), -2);
        DUE.is("base(0, 0)", x.base(0, 0), -4);
        DUE.is("base(0, 51)", x.base(0, 51), -6);
        DUE.is("base(3, 50)", x.base(3, 50), 10);
        DUE.is("base(3, 1)", x.base(3, 1), 50);
        DUE.is("base(2, 1)", x.base(2, 1), 10);
    }

    private static void risk() {
        DoorStars x = new DoorStars();
        x.kitchen(1, 0, 99, 0, 0);
        x.kitchen(2, 0, 100, 0, 0);
        x.base(1, 1);
        DUE.is("risk(2, 2): -1 first", x.risk(2, 2), -1);
        DUE.is("risk(0, 2)", x.risk(0, 2), -2);
        DUE.is("risk(0, -1)", x.risk(0, -1), -2);
        DUE.is("risk(-1, 0)", x.risk(-1, 0), -1);
        DUE.is("risk without a look", x.risk(0, 0), 1 + 1 + 24);
        DUE.is("due without a look", x.risk(0, 1), 0);
        DUE.is("100 mouths", x.risk(1, 0), 10 + 2 + 24);
        x.days(50);
        x.look(0, 0, 40);
        DUE.is("a look without a table: no star", x.risk(0, 0), 26);
        DUE.is("and yet it counts for due", x.risk(0, 1), 40 + 20);
        x.code(0, 1, 50);
        x.table(50, 1, 2, 3, 4);
        x.look(0, 0, 50);
        DUE.is("star 5", x.risk(0, 0), 2);
        DUE.is("the span of a low risk", x.risk(0, 1), 50 + 200);
        x.find(0, 1);
        DUE.is("star 4", x.risk(0, 0), 10);
        DUE.is("its due", x.risk(0, 1), 50 + 40);
        x.find(0, 9);
        DUE.is("star 1", x.risk(0, 0), 34);
        DUE.is("a span of 20 at least", x.risk(0, 1), 70);
        x.base(1, 13);
        x.back(1);
        DUE.is("the look was taken back: the one ahead of it", x.risk(0, 1), 60);
        x.kitchen(0, 0, 49, 0, 0);
        x.base(0, 19);
        x.look(2, 0, 50);
        DUE.is("400 by 19, cut", x.risk(2, 1), 50 + 21);
        x.base(0, 1);
        DUE.is("the least risk", x.risk(2, 0), 1);
        DUE.is("its span", x.risk(2, 1), 50 + 400);
        x.base(0, 19);
        x.back(2);
        x.look(2, 0, 49);
        DUE.is("no table on that day: 400 by 43 is below 20", x.risk(2, 1), 49 + 20);
    }

    private static void delay() {
        DoorStars x = new DoorStars();
        x.kitchen(0, 0, 1, 0, 0);
        x.base(0, 1);
        DUE.is("delay(1, -1)", x.delay(1, -1), -1);
        DUE.is("delay(-1, 0)", x.delay(-1, 0), -1);
        DUE.is("delay(0, -1)", x.delay(0, -1), -4);
        DUE.is("delay(0, 1501)", x.delay(0, 1501), -6);
        DUE.is("at due", x.delay(0, 0), 0);
        DUE.is("a day behind", x.delay(0, 1), 25);
        DUE.is("29 days behind", x.delay(0, 29), 725);
        DUE.is("30 days behind", x.delay(0, 30), 825);
        DUE.is("59 days behind", x.delay(0, 59), 1475 + 147);
        DUE.is("60 days behind: a tenth and a tenth", x.delay(0, 60), 1650 + 165);
        DUE.is("1500 days behind", x.delay(0, 1500), 4401823);
        x.days(10);
        x.look(0, 0, 10);
        DUE.is("ahead of due", x.delay(0, 9), 0);
        DUE.is("at due then", x.delay(0, 30), 0);
        DUE.is("behind due then", x.delay(0, 31), 25);
    }

    public static void main(String[] args) {
        table();
        starByBounds();
        starByTablesInForce();
        starAsOf();
        shown();
        base();
        risk();
        delay();
        DUE.finish();
    }
}
