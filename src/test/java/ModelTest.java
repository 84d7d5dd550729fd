import java.util.Random;

/** Random runs of calls, the same on the program and on the plain model: every answer is the same. */
public final class ModelTest {
    private static final Due DUE = new Due();
    private static final int CALLS = 512;

    private final Random random;
    private final DoorStars stars = new DoorStars();
    private final Model model = new Model();
    private final String run;
    private int wildness;

    private ModelTest(String name, long seed) {
        random = new Random(seed);
        run = name + " " + seed;
        wildness = 5 + random.nextInt(30);
    }

    /** Mostly inside, now and then an edge or one beyond it, seldom the ends of int. */
    private int near(int least, int greatest) {
        if (random.nextInt(wildness) != 0) return least + random.nextInt(Math.max(1, greatest - least + 1));
        switch (random.nextInt(8)) {
            case 0: return least - 1;
            case 1: return greatest + 1;
            case 2: return least;
            case 3: return greatest;
            case 4: return random.nextBoolean() ? Integer.MIN_VALUE : Integer.MAX_VALUE;
            default: return least + random.nextInt(Math.max(1, greatest - least + 1));
        }
    }

    private int aDay() {
        int now = model.now;
        if (random.nextInt(3) == 0) return near(0, 1500);
        return near(now, Math.min(1500, now + 40));
    }

    private int aPastDay() {
        return random.nextInt(3) == 0 ? near(0, model.now) : near(Math.max(0, model.now - 3), model.now);
    }

    private int aKitchen() {
        return near(0, model.kitchens.size() - 1);
    }

    private int aCode() {
        return near(0, model.codes.size() - 1);
    }

    private int aLook() {
        return near(0, model.looks.size() - 1);
    }

    private void same(String call, long got, long want) {
        DUE.is(run + ": " + call, got, want);
    }

    private void say(int which) {
        int a;
        int b;
        int c;
        int d;
        int e;
        boolean on = random.nextInt(3) > 0;
        switch (which) {
            case 0:
                a = random.nextInt(20) == 0 ? near(1, 600) : near(1, 12);
                same("days(" + a + ")", stars.days(a), model.days(a));
                break;
            case 1:
                a = near(0, 4); b = near(0, 50); c = random.nextBoolean() ? model.now : aDay();
                same("code(" + a + ", " + b + ", " + c + ")", stars.code(a, b, c), model.code(a, b, c));
                break;
            case 2:
                a = aCode(); b = near(a, model.codes.size() - 1); c = aDay();
                same("turn(" + a + ", " + b + ", " + c + ")", stars.turn(a, b, c), model.turn(a, b, c));
                break;
            case 3:
                a = aCode(); b = aDay();
                same("stands(" + a + ", " + b + ")", stars.stands(a, b), model.stands(a, b));
                break;
            case 4:
                a = near(0, 4); b = near(0, 200);
                same("most(" + a + ", " + b + ")", stars.most(a, b), model.most(a, b));
                break;
            case 5:
                a = near(0, 3); b = near(0, random.nextBoolean() ? 1 : 5); c = near(1, 999); d = near(0, 9);
                e = near(0, 255);
                same("kitchen(" + a + ", " + b + ", " + c + ", " + d + ", " + e + ")",
                        stars.kitchen(a, b, c, d, e), model.kitchen(a, b, c, d, e));
                break;
            case 6:
                a = aKitchen();
                same("hard(" + a + ", " + on + ")", stars.hard(a, on), model.hard(a, on));
                break;
            case 7:
                a = near(0, 4); b = near(0, 9); on = random.nextInt(3) == 0;
                same("kin(" + a + ", " + b + ", " + on + ")", stars.kin(a, b, on), model.kin(a, b, on));
                break;
            case 8:
                a = aKitchen(); b = near(0, 4); c = aPastDay();
                same("look(" + a + ", " + b + ", " + c + ")", stars.look(a, b, c), model.look(a, b, c));
                break;
            case 9:
                a = aCode(); b = near(1, 9);
                same("find(" + a + ", " + b + ")", stars.find(a, b), model.find(a, b));
                break;
            case 10:
                a = aLook();
                same("back(" + a + ")", stars.back(a), model.back(a));
                break;
            case 11:
                a = aLook(); b = aDay();
                same("score(" + a + ", " + b + ")", stars.score(a, b), model.score(a, b));
                break;
            case 12:
                a = random.nextBoolean() ? model.now : aDay(); b = near(0, 60); c = near(b, b + 60);
                d = near(c, c + 60); e = random.nextInt(9) == 0 ? near(d, 999) : near(d, d + 60);
                same("table(" + a + ", " + b + ", " + c + ", " + d + ", " + e + ")",
                        stars.table(a, b, c, d, e), model.table(a, b, c, d, e));
                break;
            case 13:
                a = aKitchen(); b = aPastDay(); c = aPastDay();
                same("star(" + a + ", " + b + ", " + c + ")", stars.star(a, b, c), model.star(a, b, c));
                break;
            case 14:
                a = aKitchen(); b = near(0, 5);
                same("show(" + a + ", " + b + ")", stars.show(a, b), model.show(a, b));
                break;
            case 15:
                same("falses()", stars.falses(), model.falses());
                break;
            case 16:
                a = near(0, 3); b = near(1, 50);
                same("base(" + a + ", " + b + ")", stars.base(a, b), model.base(a, b));
                break;
            case 17:
                a = aKitchen(); b = near(0, 1);
                same("risk(" + a + ", " + b + ")", stars.risk(a, b), model.risk(a, b));
                break;
            case 18:
                a = aKitchen(); b = aDay();
                same("delay(" + a + ", " + b + ")", stars.delay(a, b), model.delay(a, b));
                break;
            default:
                sayMore(which);
        }
    }

    private void sayMore(int which) {
        int a;
        int b;
        int c;
        int d;
        switch (which) {
            case 19:
                a = random.nextInt(3) == 0 ? near(1, 9) : near(1, 3);
                same("capacity(" + a + ")", stars.capacity(a), model.capacity(a));
                break;
            case 20:
                a = near(1, 3);
                same("rounds(" + a + ")", stars.rounds(a), model.rounds(a));
                break;
            case 21:
                a = near(1, 3); b = aKitchen(); c = near(0, 1);
                same("roundOf(" + a + ", " + b + ", " + c + ")", stars.roundOf(a, b, c), model.roundOf(a, b, c));
                break;
            case 22:
                same("doubles()", stars.doubles(), model.doubles());
                break;
            case 23:
                a = near(0, 4); b = near(0, 1);
                same("habit(" + a + ", " + b + ")", stars.habit(a, b), model.habit(a, b));
                break;
            case 24:
                a = aLook(); b = near(0, 1);
                same("evened(" + a + ", " + b + ")", stars.evened(a, b), model.evened(a, b));
                break;
            case 25:
                same("others()", stars.others(), model.others());
                break;
            case 26:
                a = near(0, 9999); b = near(2, 5); c = near(0, b - 1);
                same("swap(" + a + ", " + b + ", " + c + ")", stars.swap(a, b, c), model.swap(a, b, c));
                break;
            case 27:
                a = aKitchen(); b = near(0, 1500); c = near(b, Math.min(1500, b + 200));
                same("shut(" + a + ", " + b + ", " + c + ")", stars.shut(a, b, c), model.shut(a, b, c));
                break;
            case 28:
                a = near(0, random.nextBoolean() ? 1 : 5); b = near(0, 1500); c = near(b, 1500); d = near(0, 7);
                same("complaint(" + a + ", " + b + ", " + c + ", " + d + ")",
                        stars.complaint(a, b, c, d), model.complaint(a, b, c, d));
                break;
            case 29:
                a = near(0, model.complaints.size() - 1); b = aKitchen(); c = near(0, 1);
                same("part(" + a + ", " + b + ", " + c + ")", stars.part(a, b, c), model.part(a, b, c));
                break;
            case 30:
                a = near(0, model.complaints.size() - 1);
                same("joined(" + a + ")", stars.joined(a), model.joined(a));
                break;
            case 31:
                a = near(0, 5); b = random.nextInt(3) == 0 ? 12 : near(0, 12);
                same("began(" + a + ", " + b + ")", stars.began(a, b), model.began(a, b));
                break;
            case 32:
                a = near(0, 5); b = near(0, 11); c = near(0, random.nextBoolean() ? 999 : 9);
                same("cases(" + a + ", " + b + ", " + c + ")", stars.cases(a, b, c), model.cases(a, b, c));
                break;
            case 33:
                a = near(0, 1);
                same("effect(" + a + ")", stars.effect(a), model.effect(a));
                break;
            case 34:
                same("chance()", stars.chance(), model.chance());
                break;
            case 35:
                same("helped()", stars.helped(), model.helped());
                break;
            default:
                a = near(0, 18);
                same("count(" + a + ")", stars.count(a), model.count(a));
        }
    }

    /** The weight of each call; those without a number are said now and then. */
    private void go(int[] often) {
        int[] weights = new int[37];
        int sum = 0;
        for (int i = 0; i < often.length; i += 2) weights[often[i]] = often[i + 1];
        for (int i = 0; i < weights.length; i++) sum += weights[i];
        for (int call = 0; call < CALLS; call++) {
            int at = random.nextInt(sum);
            int which = 0;
            while (at >= weights[which]) at -= weights[which++];
            say(which);
        }
        for (int what = -1; what <= 19; what++) same("count(" + what + ")", stars.count(what), model.count(what));
    }

    private static void runs(String name, int runs, int... often) {
        for (int seed = 1; seed <= runs; seed++) new ModelTest(name, seed).go(often);
        System.out.println("  " + name + ": " + runs + " runs");
    }

    public static void main(String[] args) {
        int more = args.length > 0 ? Integer.parseInt(args[0]) : 1;
        int[] all = new int[74];
        for (int i = 0; i < 37; i++) {
            all[2 * i] = i;
            all[2 * i + 1] = i == 34 || i == 35 ? 1 : i == 20 || i == 21 ? 2 : 4;
        }
        runs("all calls", 60 * more, all);
        runs("codes and looks", 60 * more,
                0, 5, 1, 12, 2, 12, 3, 8, 4, 4, 5, 3, 7, 2, 8, 12, 9, 30, 10, 3, 11, 10, 12, 2, 13, 15, 36, 1);
        runs("stars", 60 * more,
                0, 6, 1, 3, 2, 2, 4, 1, 5, 3, 8, 14, 9, 20, 10, 6, 12, 3, 13, 20, 14, 6, 15, 6, 17, 6, 18, 6, 16, 2);
        runs("rounds", 60 * more,
                0, 8, 1, 1, 5, 6, 6, 6, 7, 6, 8, 6, 9, 4, 12, 1, 16, 3, 19, 3, 20, 8, 21, 16);
        runs("habits", 40 * more,
                0, 2, 1, 3, 2, 1, 4, 1, 5, 1, 8, 14, 9, 20, 10, 2, 12, 1, 22, 5, 23, 10, 24, 10, 25, 6, 26, 3);
        runs("complaints", 60 * more, 5, 6, 27, 14, 28, 8, 29, 24, 30, 8, 36, 3);
        runs("helped", 12 * more, 31, 6, 32, 60, 33, 8, 34, 1, 35, 1);
        DUE.finish();
    }
}
