import java.util.Arrays;

/**
 * Stars on doors: kitchens, codes, looks, stars, rounds of a week, habits of inspectors, complaints
 * and whether stars helped. The document's words are kept: "ahead of" a day is earlier, "behind" it
 * is later; a refusal is a number below 0 that is counted and changes nothing else.
 */
public final class DoorStars {
    private static final int NOBODY = -1;
    private static final int OTHER = -2;
    private static final int STATE = -3;
    private static final int BELOW = -4;
    private static final int ROOM = -6;
    private static final int BARRED = -7;
    private static final int NONE = -9;
    private static final int REFUSAL_KINDS = 7;
    private static final long LONG_REFUSAL = 4000000000000000000L;

    private static final int LAST_DAY = 1500;
    private static final int AFTER_ALL_DAYS = LAST_DAY + 1;
    private static final int INSPECTORS = 5;
    private static final int OWNERS = 10;
    private static final int KINDS = 4;
    private static final int STREETS = 6;
    private static final int DISHES = 8;
    private static final int GROUPS = 5;
    private static final int MONTHS = 12;

    private static final int MOST_CODES = 40;
    private static final int MOST_POINTS = 50;
    private static final int MOST_OF_GROUP = 200;
    private static final int FIRST_MOST = 60;
    private static final int MOST_KITCHENS = 20;
    private static final int MOST_MOUTHS = 999;
    private static final int ALL_DISHES = 255;
    private static final int MOST_SHUTS = 8;
    private static final int MOST_LOOKS = 80;
    private static final int MOST_AT_ONCE = 9;
    private static final int MOST_FOUND = 99;
    private static final int MOST_TABLES = 10;
    private static final int BOUNDS = 4;
    private static final int MOST_BOUND = 999;
    private static final int BEST_STAR = 5;
    private static final int MOST_COMPLAINTS = 20;
    private static final int MOST_CASES = 999;

    private static final int MOST_BASE = 50;
    private static final int FIRST_BASE = 10;
    private static final int MOUTHS_A_RISK = 50;
    private static final int RISK_A_STAR = 8;
    private static final int LACK_WITHOUT_STAR = 3;
    private static final int SPAN_BY_RISK = 400;
    private static final int LEAST_SPAN = 20;
    private static final int DELAY_STEP = 30;
    private static final int MOST_CAPACITY = 9;
    private static final int FIRST_CAPACITY = 2;
    private static final int WEEK = 7;
    private static final int WORK_DAYS = 5;
    private static final int MOST_HANDS = 3;
    private static final int MOST_ROUNDS = 6;

    private static final int MOST_SEED = 9999;
    private static final int HELPED_WAYS = 36;

    private final int[] refusals = new int[REFUSAL_KINDS + 1];
    private final boolean[] kinRows = new boolean[INSPECTORS * OWNERS];
    private final int[] bases = new int[KINDS];
    private final int[] lateCosts = new int[MOST_KITCHENS];
    private final int[] seats = new int[INSPECTORS];
    private final Codes codes = new Codes();
    private final Kitchens kitchens = new Kitchens();
    private final Looks looks = new Looks(codes);
    private final Tables tables = new Tables();
    private final Week week = new Week();
    private final Habits habits = new Habits(looks);
    private final Complaints complaints = new Complaints(kitchens);
    private final Trial trial = new Trial();
    private final Fraction evenedScore = new Fraction();
    private int today = 0;
    private int looksADay = FIRST_CAPACITY;

    public DoorStars() {
        Arrays.fill(bases, FIRST_BASE);
    }

    // ---- I. days, codes, kitchens, looks ----

    public int days(int n) {
        if (n < 1) return refused(BELOW);
        if (n > LAST_DAY - today) return refused(ROOM);
        today += n;
        return today;
    }

    public int code(int group, int points, int day) {
        if (!isWithin(group, GROUPS)) return refused(NOBODY);
        if (points < 0 || day < today) return refused(BELOW);
        if (points > MOST_POINTS || day > LAST_DAY || codes.isFull()) return refused(ROOM);
        return codes.add(group, points, day);
    }

    public int turn(int code, int into, int day) {
        if (!codes.has(code) || !codes.has(into)) return refused(NOBODY);
        if (codes.isTurned(code) || into <= code) return refused(STATE);
        if (day < today) return refused(BELOW);
        if (day > LAST_DAY) return refused(ROOM);
        codes.turnInto(code, into, day);
        return 1;
    }

    public int stands(int code, int day) {
        if (!codes.has(code)) return refused(NOBODY);
        if (day < 0) return refused(BELOW);
        if (day > LAST_DAY) return refused(ROOM);
        return codes.standingFor(code, day);
    }

    public int most(int group, int v) {
        if (!isWithin(group, GROUPS)) return refused(NOBODY);
        if (v < 0) return refused(BELOW);
        if (v > MOST_OF_GROUP) return refused(ROOM);
        return codes.changeMost(group, v);
    }

    public int kitchen(int kind, int street, int mouths, int owner, int dishes) {
        if (!isWithin(kind, KINDS)) return refused(OTHER);
        if (!isWithin(street, STREETS) || !isWithin(owner, OWNERS)) return refused(NOBODY);
        if (mouths < 1 || dishes < 0) return refused(BELOW);
        if (mouths > MOST_MOUTHS || dishes > ALL_DISHES || kitchens.isFull()) return refused(ROOM);
        return kitchens.add(kind, street, mouths, owner, dishes);
    }

    public int hard(int kitchen, boolean on) {
        if (!kitchens.has(kitchen)) return refused(NOBODY);
        if (kitchens.isHard(kitchen) == on) return 0;
        kitchens.changeHard(kitchen, on);
        return 1;
    }

    public int kin(int inspector, int owner, boolean on) {
        if (!isWithin(inspector, INSPECTORS) || !isWithin(owner, OWNERS)) return refused(NOBODY);
        if (isKin(inspector, owner) == on) return 0;
        kinRows[inspector * OWNERS + owner] = on;
        return 1;
    }

    public int look(int kitchen, int inspector, int day) {
        if (!kitchens.has(kitchen) || !isWithin(inspector, INSPECTORS)) return refused(NOBODY);
        if (isKin(inspector, kitchens.ownerOf(kitchen))) return refused(BARRED);
        if (day > today) return refused(STATE);
        if (day < 0) return refused(BELOW);
        if (looks.isFull()) return refused(ROOM);
        return looks.add(kitchen, inspector, day, today);
    }

    public int find(int code, int n) {
        if (!codes.has(code)) return refused(NOBODY);
        int latest = looks.size() - 1;
        if (!looks.has(latest) || looks.isTakenBack(latest)) return refused(STATE);
        if (!codes.isInForce(code, looks.dayOf(latest))) return refused(STATE);
        if (n < 1) return refused(BELOW);
        if (n > MOST_AT_ONCE || n > MOST_FOUND - looks.timesFound(latest, code)) return refused(ROOM);
        return looks.addFound(latest, code, n);
    }

    public int back(int look) {
        if (!looks.has(look)) return refused(NOBODY);
        if (looks.isTakenBack(look)) return refused(STATE);
        looks.takeBack(look, today);
        return 1;
    }

    public int score(int look, int day) {
        if (!looks.has(look)) return refused(NOBODY);
        if (day < 0) return refused(BELOW);
        if (day > LAST_DAY) return refused(ROOM);
        return looks.scoreOn(look, day);
    }

    // ---- II. tables and stars ----

    public int table(int day, int b4, int b3, int b2, int b1) {
        if (day < today || b4 < 0 || b4 > b3 || b3 > b2 || b2 > b1) return refused(BELOW);
        // the bounds are in order here, so the last one is the greatest
        if (day > LAST_DAY || b1 > MOST_BOUND || tables.isFull()) return refused(ROOM);
        return tables.add(day, b4, b3, b2, b1);
    }

    public int star(int kitchen, int j, int k) {
        if (!kitchens.has(kitchen)) return refused(NOBODY);
        if (j < 0 || k < 0) return refused(BELOW);
        if (j > LAST_DAY || k > LAST_DAY) return refused(ROOM);
        return starOf(kitchen, j, k);
    }

    public int show(int kitchen, int star) {
        if (!kitchens.has(kitchen)) return refused(NOBODY);
        if (star < 0) return refused(BELOW);
        if (star > BEST_STAR) return refused(ROOM);
        return kitchens.changeShown(kitchen, star);
    }

    public int falses() {
        int sum = 0;
        for (int kitchen = 0; kitchen < kitchens.size(); kitchen++) {
            if (kitchens.shownOn(kitchen) > starOf(kitchen, today, today)) sum++;
        }
        return sum;
    }

    // ---- III. risk, delay, rounds ----

    public int base(int kind, int v) {
        if (!isWithin(kind, KINDS)) return refused(OTHER);
        if (v < 1) return refused(BELOW);
        if (v > MOST_BASE) return refused(ROOM);
        int was = bases[kind];
        bases[kind] = v;
        return was;
    }

    public int risk(int kitchen, int what) {
        if (!kitchens.has(kitchen)) return refused(NOBODY);
        if (what == 0) return riskOf(kitchen);
        if (what == 1) return dueOf(kitchen, riskOf(kitchen));
        return refused(OTHER);
    }

    public int delay(int kitchen, int day) {
        if (!kitchens.has(kitchen)) return refused(NOBODY);
        if (day < 0) return refused(BELOW);
        if (day > LAST_DAY) return refused(ROOM);
        int risk = riskOf(kitchen);
        return delayCost(risk, dueOf(kitchen, risk), day);
    }

    public int capacity(int v) {
        if (v < 1) return refused(BELOW);
        if (v > MOST_CAPACITY) return refused(ROOM);
        int was = looksADay;
        looksADay = v;
        return was;
    }

    public int rounds(int n) {
        if (n < 1) return refused(BELOW);
        if (n > MOST_HANDS || today + WEEK > LAST_DAY) return refused(ROOM);
        return planWeek(n);
    }

    public int roundOf(int n, int kitchen, int what) {
        if (!kitchens.has(kitchen)) return refused(NOBODY);
        if (what < 0 || what > 1) return refused(OTHER);
        if (n < 1) return refused(BELOW);
        if (n > MOST_HANDS || today + WEEK > LAST_DAY) return refused(ROOM);
        planWeek(n);
        if (what == 1) return week.handsAt(kitchen);
        int day = week.dayAt(kitchen);
        return day < WORK_DAYS ? today + day : NONE;
    }

    // ---- IV. doubles, habits, swaps ----

    public int doubles() {
        return habits.doublesNow();
    }

    public long habit(int inspector, int part) {
        if (!isWithin(inspector, INSPECTORS)) return refusedLong(NOBODY);
        if (part < 0 || part > 1) return refusedLong(OTHER);
        habits.learn();
        if (!habits.isInDouble(inspector)) return refusedLong(STATE);
        return habits.habitOf(inspector).piece(part);
    }

    public long evened(int look, int part) {
        if (!looks.has(look)) return refusedLong(NOBODY);
        if (part < 0 || part > 1) return refusedLong(OTHER);
        habits.learn();
        evenScore(look);
        return evenedScore.piece(part);
    }

    public int others() {
        habits.learn();
        int sum = 0;
        for (int kitchen = 0; kitchen < kitchens.size(); kitchen++) {
            int look = looks.latestOf(kitchen, today, today);
            if (look >= 0 && isOtherWhenEvened(look)) sum++;
        }
        return sum;
    }

    public int swap(int seed, int n, int inspector) {
        if (seed < 0 || n < 2) return refused(BELOW);
        if (seed > MOST_SEED || n > INSPECTORS) return refused(ROOM);
        if (!isWithin(inspector, n)) return refused(NOBODY);
        dealSeats(seed, n);
        return seats[inspector];
    }

    // ---- V. complaints ----

    public int shut(int kitchen, int from, int to) {
        if (!kitchens.has(kitchen)) return refused(NOBODY);
        if (from < 0 || to < from) return refused(BELOW);
        if (to > LAST_DAY || kitchens.shutsOf(kitchen) >= MOST_SHUTS) return refused(ROOM);
        return kitchens.addShut(kitchen, from, to);
    }

    public int complaint(int street, int from, int to, int dish) {
        if (!isWithin(street, STREETS) || !isWithin(dish, DISHES)) return refused(NOBODY);
        if (from < 0 || to < from) return refused(BELOW);
        if (to > LAST_DAY || complaints.isFull()) return refused(ROOM);
        return complaints.add(street, from, to, dish);
    }

    public int part(int complaint, int kitchen, int part) {
        if (!complaints.has(complaint) || !kitchens.has(kitchen)) return refused(NOBODY);
        if (part < 0 || part > 1) return refused(OTHER);
        return (int) complaints.shareOf(complaint, kitchen).piece(part);
    }

    public int joined(int complaint) {
        if (!complaints.has(complaint)) return refused(NOBODY);
        return complaints.kitchenOf(complaint);
    }

    // ---- VI. whether stars helped ----

    public int began(int street, int month) {
        if (!isWithin(street, STREETS)) return refused(NOBODY);
        if (month < 0) return refused(BELOW);
        if (month > MONTHS) return refused(ROOM);
        return trial.changeBegan(street, month);
    }

    public int cases(int street, int month, int n) {
        if (!isWithin(street, STREETS) || !isWithin(month, MONTHS)) return refused(NOBODY);
        if (n < 0) return refused(BELOW);
        if (n > MOST_CASES) return refused(ROOM);
        return trial.changeCases(street, month, n);
    }

    public long effect(int part) {
        if (part < 0 || part > 1) return refusedLong(OTHER);
        if (!trial.hasEffect()) return refusedLong(STATE);
        return trial.trueEffect().piece(part);
    }

    public int chance() {
        return trial.hasEffect() ? trial.waysNoGreater() : NONE;
    }

    public int helped() {
        if (!trial.hasEffect() || trial.trueEffect().piece(0) >= 0) return 0;
        return trial.waysNoGreater() <= HELPED_WAYS ? 1 : 0;
    }

    public int count(int what) {
        switch (what) {
            case 0: return today;
            case 1: return codes.size();
            case 2: return kitchens.size();
            case 3: return looks.size();
            case 4: return looks.takenBackSize();
            case 5: return tables.size();
            case 6: return complaints.size();
            case 7: return complaints.joinedSize();
            default: return refusalsOf(what - 10);
        }
    }

    // ---- refusals ----

    private int refused(int number) {
        if (number < 0 && number >= -REFUSAL_KINDS) refusals[-number]++;
        return number;
    }

    private long refusedLong(int number) {
        return LONG_REFUSAL - refused(number);
    }

    private int refusalsOf(int kind) {
        return kind >= 1 && kind <= REFUSAL_KINDS ? refusals[kind] : NONE;
    }

    private static boolean isWithin(int number, int size) {
        return number >= 0 && number < size;
    }

    private boolean isKin(int inspector, int owner) {
        return kinRows[inspector * OWNERS + owner];
    }

    // ---- stars, risk and delay of a kitchen ----

    private int starOf(int kitchen, int j, int k) {
        int look = looks.latestOf(kitchen, j, k);
        if (look < 0) return 0;
        int day = looks.dayOf(look);
        return tables.starOn(day, looks.scoreOn(look, day), 1);
    }

    private int riskOf(int kitchen) {
        int star = starOf(kitchen, today, today);
        int lack = star == 0 ? LACK_WITHOUT_STAR : BEST_STAR - star;
        int mouths = kitchens.mouthsOf(kitchen) / MOUTHS_A_RISK;
        return bases[kitchens.kindOf(kitchen)] + mouths + RISK_A_STAR * lack;
    }

    private int dueOf(int kitchen, int risk) {
        int look = looks.latestOf(kitchen, today, today);
        if (look < 0 || risk < 1) return 0;
        return looks.dayOf(look) + Math.max(LEAST_SPAN, SPAN_BY_RISK / risk);
    }

    private static int delayCost(int risk, int due, int day) {
        if (day <= due) return 0;
        int cost = risk * (day - due);
        int steps = (day - due) / DELAY_STEP;
        for (int step = 0; step < steps; step++) cost += cost / 10;
        return cost;
    }

    // ---- the rounds of a week ----

    private int planWeek(int n) {
        int chosen = dearestToLeave();
        week.open(n, looksADay);
        for (int kitchen = 0; kitchen < kitchens.size(); kitchen++) {
            if ((chosen >> kitchen & 1) != 0) enterWeek(kitchen, n);
        }
        return week.settleAll();
    }

    /** The kitchens of the rounds as bits. RISK is above 0, so COST is above 0 just where DUE is ahead. */
    private int dearestToLeave() {
        for (int kitchen = 0; kitchen < kitchens.size(); kitchen++) {
            int risk = riskOf(kitchen);
            lateCosts[kitchen] = delayCost(risk, dueOf(kitchen, risk), today + WEEK);
        }
        int chosen = 0;
        for (int place = 0; place < MOST_ROUNDS; place++) {
            int dearest = dearestBeside(chosen);
            if (dearest >= 0) chosen |= 1 << dearest;
        }
        return chosen;
    }

    private int dearestBeside(int chosen) {
        int dearest = -1;
        int cost = 0;
        for (int kitchen = 0; kitchen < kitchens.size(); kitchen++) {
            if ((chosen >> kitchen & 1) == 0 && lateCosts[kitchen] > cost) {
                dearest = kitchen;
                cost = lateCosts[kitchen];
            }
        }
        return dearest;
    }

    private void enterWeek(int kitchen, int n) {
        int risk = riskOf(kitchen);
        int due = dueOf(kitchen, risk);
        int hands = kitchens.isHard(kitchen) ? 2 : 1;
        int place = week.add(kitchen, hands, handsFree(kitchens.ownerOf(kitchen), n));
        for (int day = 0; day < WORK_DAYS; day++) {
            week.setPrice(place, day, delayCost(risk, due, today + day));
        }
        week.setPrice(place, WORK_DAYS, 2 * lateCosts[kitchen]);
    }

    private int handsFree(int owner, int n) {
        int free = 0;
        for (int inspector = 0; inspector < n && inspector < INSPECTORS; inspector++) {
            if (!isKin(inspector, owner)) free |= 1 << inspector;
        }
        return free;
    }

    // ---- evened scores and swaps ----

    private void evenScore(int look) {
        Fraction habit = habits.habitOf(looks.inspectorOf(look));
        long below = habit.piece(1);
        evenedScore.put(looks.ownScore(look) * below - habit.piece(0), below);
    }

    private boolean isOtherWhenEvened(int look) {
        int day = looks.dayOf(look);
        int star = tables.starOn(day, looks.ownScore(look), 1);
        evenScore(look);
        return star != 0 && star != tables.starOn(day, evenedScore.piece(0), evenedScore.piece(1));
    }

    private void dealSeats(int seed, int n) {
        for (int seat = 0; seat < n && seat < INSPECTORS; seat++) seats[seat] = seat;
        int drawn = seed;
        for (int seat = Math.min(n, INSPECTORS) - 1; seat >= 1; seat--) {
            drawn = (drawn * 37 + 101) % 10007;
            int other = Math.floorMod(drawn, seat + 1);
            int kept = seats[seat];
            seats[seat] = seats[other];
            seats[other] = kept;
        }
    }

    // ---- classes inside ----

    /** A fraction without a common divisor. It is set again and again, so that calls make no objects. */
    private static final class Fraction {
        private long above = 0;
        private long below = 1;

        /** A part below that is not above 0 is no fraction: then it is 0 by 1. */
        void put(long newAbove, long newBelow) {
            above = 0;
            below = 1;
            long divisor = commonDivisor(Math.abs(newAbove), newBelow);
            if (newBelow > 0 && divisor > 0) {
                above = newAbove / divisor;
                below = newBelow / divisor;
            }
        }

        long piece(int part) {
            return part == 0 ? above : below;
        }

        /** Euclid's way; a hundred steps are more than two longs can need. */
        private static long commonDivisor(long first, long second) {
            long x = first;
            long y = second;
            for (int step = 0; step < 100 && y != 0; step++) {
                long rest = x % y;
                x = y;
                y = rest;
            }
            return x;
        }
    }

    /** CODES, what they are TURNED into, and MOST of their GROUPS. */
    private static final class Codes {
        private static final int NOT_TURNED = -1;

        private final int[] groups = new int[MOST_CODES];
        private final int[] points = new int[MOST_CODES];
        private final int[] fromDays = new int[MOST_CODES];
        private final int[] intos = new int[MOST_CODES];
        private final int[] turnDays = new int[MOST_CODES];
        private final int[] mosts = new int[GROUPS];
        private int size = 0;

        Codes() {
            Arrays.fill(intos, NOT_TURNED);
            Arrays.fill(mosts, FIRST_MOST);
        }

        int size() {
            return size;
        }

        boolean isFull() {
            return size >= MOST_CODES;
        }

        boolean has(int code) {
            return code >= 0 && code < size;
        }

        int add(int group, int pointsEach, int day) {
            groups[size] = group;
            points[size] = pointsEach;
            fromDays[size] = day;
            return size++;
        }

        boolean isInForce(int code, int day) {
            return fromDays[code] <= day;
        }

        boolean isTurned(int code) {
            return intos[code] != NOT_TURNED;
        }

        void turnInto(int code, int into, int day) {
            intos[code] = into;
            turnDays[code] = day;
        }

        /** A CODE is turned into one of a greater number only, so the chain has an end. */
        int standingFor(int code, int day) {
            int standing = code;
            for (int step = 0; step < MOST_CODES; step++) {
                if (intos[standing] == NOT_TURNED || turnDays[standing] > day) break;
                standing = intos[standing];
            }
            return standing;
        }

        int groupOf(int code) {
            return groups[code];
        }

        int pointsOf(int code) {
            return points[code];
        }

        int mostOf(int group) {
            return mosts[group];
        }

        int changeMost(int group, int most) {
            int was = mosts[group];
            mosts[group] = most;
            return was;
        }
    }

    /** KITCHENS, what is SHOWN on their doors, and when they were SHUT. */
    private static final class Kitchens {
        private final int[] kinds = new int[MOST_KITCHENS];
        private final int[] streets = new int[MOST_KITCHENS];
        private final int[] mouths = new int[MOST_KITCHENS];
        private final int[] owners = new int[MOST_KITCHENS];
        private final int[] dishSets = new int[MOST_KITCHENS];
        private final int[] shown = new int[MOST_KITCHENS];
        private final boolean[] hards = new boolean[MOST_KITCHENS];
        private final int[] shutSizes = new int[MOST_KITCHENS];
        private final int[] shutFroms = new int[MOST_KITCHENS * MOST_SHUTS];
        private final int[] shutTos = new int[MOST_KITCHENS * MOST_SHUTS];
        private int size = 0;

        int size() {
            return size;
        }

        boolean isFull() {
            return size >= MOST_KITCHENS;
        }

        boolean has(int kitchen) {
            return kitchen >= 0 && kitchen < size;
        }

        int add(int kind, int street, int mouthsFed, int owner, int dishes) {
            kinds[size] = kind;
            streets[size] = street;
            mouths[size] = mouthsFed;
            owners[size] = owner;
            dishSets[size] = dishes;
            return size++;
        }

        int kindOf(int kitchen) {
            return kinds[kitchen];
        }

        int mouthsOf(int kitchen) {
            return mouths[kitchen];
        }

        int ownerOf(int kitchen) {
            return owners[kitchen];
        }

        boolean isMeant(int kitchen, int street, int dish) {
            return streets[kitchen] == street && (dishSets[kitchen] >> dish & 1) != 0;
        }

        boolean isHard(int kitchen) {
            return hards[kitchen];
        }

        void changeHard(int kitchen, boolean on) {
            hards[kitchen] = on;
        }

        int shownOn(int kitchen) {
            return shown[kitchen];
        }

        int changeShown(int kitchen, int star) {
            int was = shown[kitchen];
            shown[kitchen] = star;
            return was;
        }

        int shutsOf(int kitchen) {
            return shutSizes[kitchen];
        }

        int addShut(int kitchen, int from, int to) {
            int row = kitchen * MOST_SHUTS + shutSizes[kitchen];
            shutFroms[row] = from;
            shutTos[row] = to;
            return ++shutSizes[kitchen];
        }

        /** It goes from edge to edge of what is SHUT, not day by day: each has two edges. */
        int openDays(int kitchen, int from, int to) {
            int open = 0;
            int day = from;
            for (int edge = 0; edge <= 2 * MOST_SHUTS && day <= to; edge++) {
                int next = shutPast(kitchen, day);
                if (next == day) {
                    next = Math.min(to + 1, nextShut(kitchen, day));
                    open += next - day;
                }
                day = next;
            }
            return open;
        }

        /** The DAY behind the longest of those that hold this DAY; the DAY itself if none does. */
        private int shutPast(int kitchen, int day) {
            int past = day;
            int first = kitchen * MOST_SHUTS;
            for (int row = first; row < first + shutSizes[kitchen]; row++) {
                if (shutFroms[row] <= day && shutTos[row] >= past) past = shutTos[row] + 1;
            }
            return past;
        }

        private int nextShut(int kitchen, int day) {
            int next = AFTER_ALL_DAYS;
            int first = kitchen * MOST_SHUTS;
            for (int row = first; row < first + shutSizes[kitchen]; row++) {
                if (shutFroms[row] > day && shutFroms[row] < next) next = shutFroms[row];
            }
            return next;
        }
    }

    /** LOOKS with their FINDINGS, when they were KNOWN and TAKEN BACK, and their SCORES. */
    private static final class Looks {
        private final Codes codes;
        private final int[] kitchens = new int[MOST_LOOKS];
        private final int[] inspectors = new int[MOST_LOOKS];
        private final int[] days = new int[MOST_LOOKS];
        private final int[] knownDays = new int[MOST_LOOKS];
        private final int[] backDays = new int[MOST_LOOKS];
        private final int[] found = new int[MOST_LOOKS * MOST_CODES];
        private final int[] groupSums = new int[GROUPS];
        private int size = 0;
        private int takenBack = 0;

        Looks(Codes codes) {
            this.codes = codes;
            Arrays.fill(backDays, AFTER_ALL_DAYS);
        }

        int size() {
            return size;
        }

        int takenBackSize() {
            return takenBack;
        }

        boolean isFull() {
            return size >= MOST_LOOKS;
        }

        boolean has(int look) {
            return look >= 0 && look < size;
        }

        int add(int kitchen, int inspector, int day, int known) {
            kitchens[size] = kitchen;
            inspectors[size] = inspector;
            days[size] = day;
            knownDays[size] = known;
            return size++;
        }

        int kitchenOf(int look) {
            return kitchens[look];
        }

        int inspectorOf(int look) {
            return inspectors[look];
        }

        int dayOf(int look) {
            return days[look];
        }

        boolean isTakenBack(int look) {
            return backDays[look] < AFTER_ALL_DAYS;
        }

        void takeBack(int look, int day) {
            backDays[look] = day;
            takenBack++;
        }

        int timesFound(int look, int code) {
            return found[look * MOST_CODES + code];
        }

        int addFound(int look, int code, int times) {
            int row = look * MOST_CODES + code;
            found[row] += times;
            return found[row];
        }

        /** The LOOK that gives the STAR on DAY j as of k; -1 without one. */
        int latestOf(int kitchen, int j, int k) {
            int latest = -1;
            int latestDay = 0;
            for (int look = 0; look < size; look++) {
                boolean counts = knownDays[look] <= k && backDays[look] > k;
                if (counts && kitchens[look] == kitchen && days[look] <= j && days[look] >= latestDay) {
                    latest = look;
                    latestDay = days[look];
                }
            }
            return latest;
        }

        int ownScore(int look) {
            return scoreOn(look, days[look]);
        }

        int scoreOn(int look, int day) {
            Arrays.fill(groupSums, 0);
            for (int code = 0; code < codes.size(); code++) {
                int times = timesFound(look, code);
                if (times > 0) {
                    int standing = codes.standingFor(code, day);
                    groupSums[codes.groupOf(standing)] += codes.pointsOf(standing) * times;
                }
            }
            int sum = 0;
            for (int group = 0; group < GROUPS; group++) {
                sum += Math.min(groupSums[group], codes.mostOf(group));
            }
            return sum;
        }
    }

    /** TABLES: from which SCORE on there is which STAR, from a DAY on. */
    private static final class Tables {
        private final int[] fromDays = new int[MOST_TABLES];
        private final int[] bounds = new int[MOST_TABLES * BOUNDS];
        private int size = 0;

        int size() {
            return size;
        }

        boolean isFull() {
            return size >= MOST_TABLES;
        }

        int add(int day, int b4, int b3, int b2, int b1) {
            int first = size * BOUNDS;
            fromDays[size] = day;
            bounds[first] = b4;
            bounds[first + 1] = b3;
            bounds[first + 2] = b2;
            bounds[first + 3] = b1;
            return size++;
        }

        /** STAR of a SCORE, told as a fraction, by the TABLE in force on a DAY; 0 without one. */
        int starOn(int day, long above, long below) {
            int table = inForceOn(day);
            if (table < 0) return 0;
            for (int bound = 0; bound < BOUNDS; bound++) {
                if (above < bounds[table * BOUNDS + bound] * below) return BEST_STAR - bound;
            }
            return 1;
        }

        private int inForceOn(int day) {
            int latest = -1;
            int latestDay = 0;
            for (int table = 0; table < size; table++) {
                if (fromDays[table] <= day && fromDays[table] >= latestDay) {
                    latest = table;
                    latestDay = fromDays[table];
                }
            }
            return latest;
        }
    }

    /**
     * ROUNDS of a week. DAYS are 0 .. 4 here, and 5 is "not in this week". All sets of KITCHENS and of
     * INSPECTORS are bits, a KITCHEN by its place among those that were entered (by numbers).
     */
    private static final class Week {
        private static final int SETS = 1 << MOST_ROUNDS;
        private static final int HAND_SETS = 1 << MOST_HANDS;
        // above every sum of COSTS, and low enough that adding one to it stays an int
        private static final int TOO_DEAR = 1 << 29;

        private final int[] entered = new int[MOST_ROUNDS];
        private final int[] needs = new int[MOST_ROUNDS];
        private final int[] free = new int[MOST_ROUNDS];
        private final int[] prices = new int[MOST_ROUNDS * (WORK_DAYS + 1)];
        private final int[] chosenDays = new int[MOST_ROUNDS];
        private final int[] chosenHands = new int[MOST_ROUNDS];
        private final int[] room = new int[WORK_DAYS * MOST_HANDS];
        private final int[] bound = new int[HAND_SETS * SETS];
        private final int[] dayPrices = new int[SETS];
        private final int[] least = new int[SETS];
        private int size = 0;
        private int handSets = 1;

        void open(int inspectors, int capacity) {
            size = 0;
            handSets = 1 << Math.max(0, Math.min(inspectors, MOST_HANDS));
            Arrays.fill(room, capacity);
        }

        /** The place of the KITCHEN; the last one again if there are more than the document lets in. */
        int add(int kitchen, int need, int freeHands) {
            int place = Math.min(size, MOST_ROUNDS - 1);
            entered[place] = kitchen;
            needs[place] = need;
            free[place] = freeHands;
            size = place + 1;
            return place;
        }

        void setPrice(int place, int day, int price) {
            prices[place * (WORK_DAYS + 1) + day] = price;
        }

        int dayAt(int kitchen) {
            for (int place = 0; place < size; place++) {
                if (entered[place] == kitchen) return chosenDays[place];
            }
            return WORK_DAYS;
        }

        int handsAt(int kitchen) {
            for (int place = 0; place < size; place++) {
                if (entered[place] == kitchen) return chosenHands[place];
            }
            return 0;
        }

        /** The least COST first, then place by place the first choice that the least COST allows. */
        int settleAll() {
            fillBound();
            int all = leastFrom(0);
            int left = all;
            for (int place = 0; place < size; place++) left -= settle(place, left);
            return all;
        }

        private int settle(int place, int left) {
            for (int day = 0; day < WORK_DAYS; day++) {
                int price = priceOf(place, day);
                for (int hands = 1; hands < handSets && price <= left; hands++) {
                    if (!mayTake(place, day, hands)) continue;
                    changeRoom(day, hands, -1);
                    if (price + leastFrom(place + 1) == left) return choose(place, day, hands);
                    changeRoom(day, hands, 1);
                }
            }
            return choose(place, WORK_DAYS, 0);
        }

        private int choose(int place, int day, int hands) {
            chosenDays[place] = day;
            chosenHands[place] = hands;
            return priceOf(place, day);
        }

        private int priceOf(int place, int day) {
            return prices[place * (WORK_DAYS + 1) + day];
        }

        private boolean mayTake(int place, int day, int hands) {
            if ((hands & ~free[place]) != 0 || Integer.bitCount(hands) != needs[place]) return false;
            for (int hand = 0; hand < MOST_HANDS; hand++) {
                if ((hands >> hand & 1) != 0 && room[day * MOST_HANDS + hand] < 1) return false;
            }
            return true;
        }

        private void changeRoom(int day, int hands, int by) {
            for (int hand = 0; hand < MOST_HANDS; hand++) {
                if ((hands >> hand & 1) != 0) room[day * MOST_HANDS + hand] += by;
            }
        }

        /**
         * For each set of INSPECTORS and each set of KITCHENS: how many looks these KITCHENS need of just
         * these INSPECTORS, the others doing all that they may. A set of KITCHENS fits into a DAY if this
         * is never more than the room that the INSPECTORS have (the least cut of the flow of looks).
         */
        private void fillBound() {
            for (int hands = 0; hands < handSets; hands++) {
                int row = hands * SETS;
                bound[row] = 0;
                for (int place = 0; place < size; place++) {
                    int without = Integer.bitCount(free[place] & ~hands);
                    int needed = Math.max(0, needs[place] - without);
                    int bit = 1 << place;
                    for (int set = 0; set < bit; set++) bound[row + bit + set] = bound[row + set] + needed;
                }
            }
        }

        /** The least COST of the KITCHENS from this place on, in the room that is left. */
        private int leastFrom(int first) {
            int step = 1 << first;
            int all = (1 << size) - step;
            fillSums(least, first, WORK_DAYS);
            for (int day = WORK_DAYS - 1; day >= 0; day--) {
                fillSums(dayPrices, first, day);
                barWhatFitsNot(day, step, all);
                // from the greatest set down: a smaller one still holds what the later DAYS cost
                for (int set = all; set > 0; set -= step) least[set] = leastWithDay(set);
            }
            return least[all];
        }

        private int leastWithDay(int set) {
            int best = least[set];
            int taken = set;
            for (int turn = 0; turn < SETS && taken != 0; turn++) {
                best = Math.min(best, dayPrices[taken] + least[set ^ taken]);
                taken = (taken - 1) & set;
            }
            return best;
        }

        private void fillSums(int[] sums, int first, int day) {
            sums[0] = 0;
            for (int place = first; place < size; place++) {
                int bit = 1 << place;
                int price = priceOf(place, day);
                for (int set = 0; set < bit; set += 1 << first) sums[bit + set] = sums[set] + price;
            }
        }

        private void barWhatFitsNot(int day, int step, int all) {
            for (int hands = 0; hands < handSets; hands++) {
                int has = roomOf(day, hands);
                for (int set = step; set <= all; set += step) {
                    if (bound[hands * SETS + set] > has) dayPrices[set] = TOO_DEAR;
                }
            }
        }

        private int roomOf(int day, int hands) {
            int sum = 0;
            for (int hand = 0; hand < MOST_HANDS; hand++) {
                if ((hands >> hand & 1) != 0) sum += room[day * MOST_HANDS + hand];
            }
            return sum;
        }
    }

    /**
     * HABITS by least squares: a row of the equations for each INSPECTOR, solved by determinants. These
     * take no division, so a sum that wraps around on the way still comes out right, and what comes out
     * stays far inside a long (below 10^16: 80 LOOKS are few).
     */
    private static final class Habits {
        private static final int NO_COLUMN = -1;

        private final Looks looks;
        private final int[] scores = new int[MOST_LOOKS];
        private final long[] matrix = new long[INSPECTORS * INSPECTORS];
        private final long[] right = new long[INSPECTORS];
        private final int[] joins = new int[INSPECTORS];
        private final Fraction habit = new Fraction();

        Habits(Looks looks) {
            this.looks = looks;
        }

        int doublesNow() {
            int sum = 0;
            for (int first = 0; first < looks.size(); first++) {
                for (int second = first + 1; second < looks.size(); second++) {
                    if (isDouble(first, second)) sum++;
                }
            }
            return sum;
        }

        /** Makes the equations from the LOOKS as they are now. */
        void learn() {
            Arrays.fill(matrix, 0);
            Arrays.fill(right, 0);
            Arrays.fill(joins, 0);
            for (int look = 0; look < looks.size(); look++) scores[look] = looks.ownScore(look);
            for (int first = 0; first < looks.size(); first++) {
                for (int second = first + 1; second < looks.size(); second++) {
                    if (isDouble(first, second)) {
                        addDouble(first, second);
                        addDouble(second, first);
                    }
                }
            }
            spreadJoins();
            for (int inspector = 0; inspector < INSPECTORS; inspector++) {
                if (isLowest(inspector)) setToZero(inspector);
            }
        }

        boolean isInDouble(int inspector) {
            return joins[inspector] != 0;
        }

        /** Good until it is asked for the next one. */
        Fraction habitOf(int inspector) {
            habit.put(determinant(matrix, right, inspector, 0, 0), determinant(matrix, right, NO_COLUMN, 0, 0));
            return habit;
        }

        private boolean isDouble(int first, int second) {
            return looks.kitchenOf(first) == looks.kitchenOf(second)
                    && looks.dayOf(first) == looks.dayOf(second)
                    && looks.inspectorOf(first) != looks.inspectorOf(second)
                    && !looks.isTakenBack(first)
                    && !looks.isTakenBack(second);
        }

        private void addDouble(int first, int second) {
            int one = looks.inspectorOf(first);
            int other = looks.inspectorOf(second);
            matrix[one * INSPECTORS + one]++;
            matrix[one * INSPECTORS + other]--;
            right[one] += scores[first] - scores[second];
            joins[one] |= 1 << other;
        }

        /** By way of each INSPECTOR in turn those who are joined to it are joined to one another. */
        private void spreadJoins() {
            for (int way = 0; way < INSPECTORS; way++) {
                for (int inspector = 0; inspector < INSPECTORS; inspector++) {
                    if ((joins[inspector] >> way & 1) != 0) joins[inspector] |= joins[way];
                }
            }
        }

        /** The lowest of its joined set; who is in no DOUBLE is alone in one. */
        private boolean isLowest(int inspector) {
            return (joins[inspector] & ((1 << inspector) - 1)) == 0;
        }

        private void setToZero(int inspector) {
            for (int column = 0; column < INSPECTORS; column++) matrix[inspector * INSPECTORS + column] = 0;
            matrix[inspector * INSPECTORS + inspector] = 1;
            right[inspector] = 0;
        }

        /** By cofactors, from this row (the depth) down, without the used columns; one may be replaced. */
        private static long determinant(long[] rows, long[] other, int replaced, int row, int used) {
            if (row >= INSPECTORS) return 1;
            long sum = 0;
            long sign = 1;
            for (int column = 0; column < INSPECTORS; column++) {
                if ((used >> column & 1) != 0) continue;
                long factor = column == replaced ? other[row] : rows[row * INSPECTORS + column];
                if (factor != 0) {
                    sum += sign * factor * determinant(rows, other, replaced, row + 1, used | 1 << column);
                }
                sign = -sign;
            }
            return sum;
        }
    }

    /** COMPLAINTS and their PARTS. */
    private static final class Complaints {
        private final Kitchens kitchens;
        private final int[] streets = new int[MOST_COMPLAINTS];
        private final int[] fromDays = new int[MOST_COMPLAINTS];
        private final int[] toDays = new int[MOST_COMPLAINTS];
        private final int[] dishes = new int[MOST_COMPLAINTS];
        private final int[] weights = new int[MOST_KITCHENS];
        private final Fraction share = new Fraction();
        private int size = 0;

        Complaints(Kitchens kitchens) {
            this.kitchens = kitchens;
        }

        int size() {
            return size;
        }

        boolean isFull() {
            return size >= MOST_COMPLAINTS;
        }

        boolean has(int complaint) {
            return complaint >= 0 && complaint < size;
        }

        int add(int street, int from, int to, int dish) {
            streets[size] = street;
            fromDays[size] = from;
            toDays[size] = to;
            dishes[size] = dish;
            return size++;
        }

        /** Good until it is asked for the next one. */
        Fraction shareOf(int complaint, int kitchen) {
            int whole = weighAll(complaint);
            share.put(weights[kitchen], whole);
            return share;
        }

        /** More than a half is more than all the others, so only one KITCHEN can have it. */
        int kitchenOf(int complaint) {
            int whole = weighAll(complaint);
            for (int kitchen = 0; kitchen < kitchens.size(); kitchen++) {
                if (2 * weights[kitchen] > whole) return kitchen;
            }
            return NONE;
        }

        int joinedSize() {
            int sum = 0;
            for (int complaint = 0; complaint < size; complaint++) {
                if (kitchenOf(complaint) != NONE) sum++;
            }
            return sum;
        }

        /** What all the weights make together. */
        private int weighAll(int complaint) {
            int sum = 0;
            for (int kitchen = 0; kitchen < kitchens.size(); kitchen++) {
                weights[kitchen] = weightOf(complaint, kitchen);
                sum += weights[kitchen];
            }
            return sum;
        }

        private int weightOf(int complaint, int kitchen) {
            if (!kitchens.isMeant(kitchen, streets[complaint], dishes[complaint])) return 0;
            int open = kitchens.openDays(kitchen, fromDays[complaint], toDays[complaint]);
            return kitchens.mouthsOf(kitchen) * open;
        }
    }

    /** STREETS, the MONTHS at which they began, and their CASES. */
    private static final class Trial {
        // a common multiple of 1 .. 11, so that means over so many MONTHS are whole numbers of its parts
        private static final long MULTIPLE = 27720;
        private static final int WAYS = 720;

        private final int[] begins = new int[STREETS];
        private final int[] caseRows = new int[STREETS * MONTHS];
        private final long[] rises = new long[STREETS * MONTHS];
        private final int[] left = new int[STREETS];
        private final int[] dealt = new int[STREETS];
        private final Fraction effect = new Fraction();

        Trial() {
            Arrays.fill(begins, MONTHS);
        }

        int changeBegan(int street, int month) {
            int was = begins[street];
            begins[street] = month;
            return was;
        }

        int changeCases(int street, int month, int n) {
            int row = street * MONTHS + month;
            int was = caseRows[row];
            caseRows[row] = n;
            return was;
        }

        boolean hasEffect() {
            return startedSize() > 0 && neverSize() > 0;
        }

        Fraction trueEffect() {
            fillRises();
            effect.put(effectBy(begins), MULTIPLE * neverSize() * startedSize());
            return effect;
        }

        /** The part below is the same in all ways, so the parts above are compared. */
        int waysNoGreater() {
            fillRises();
            long limit = effectBy(begins);
            int sum = 0;
            for (int way = 0; way < WAYS; way++) {
                deal(way);
                if (effectBy(dealt) <= limit) sum++;
            }
            return sum;
        }

        private static boolean isStarted(int month) {
            return month > 0 && month < MONTHS;
        }

        private int startedSize() {
            int sum = 0;
            for (int street = 0; street < STREETS; street++) {
                if (isStarted(begins[street])) sum++;
            }
            return sum;
        }

        private int neverSize() {
            int sum = 0;
            for (int street = 0; street < STREETS; street++) {
                if (begins[street] == MONTHS) sum++;
            }
            return sum;
        }

        /** Mean CASES from each MONTH on less the mean ahead of it, in parts of MULTIPLE. */
        private void fillRises() {
            for (int street = 0; street < STREETS; street++) {
                long whole = 0;
                for (int month = 0; month < MONTHS; month++) whole += caseRows[street * MONTHS + month];
                long ahead = caseRows[street * MONTHS];
                for (int month = 1; month < MONTHS; month++) {
                    int row = street * MONTHS + month;
                    rises[row] = (whole - ahead) * (MULTIPLE / (MONTHS - month)) - ahead * (MULTIPLE / month);
                    ahead += caseRows[row];
                }
            }
        }

        /** EFFECT by these MONTHS, times MULTIPLE, times the STREETS that never began, times those that did. */
        private long effectBy(int[] months) {
            int never = neverSize();
            long sum = 0;
            for (int street = 0; street < STREETS; street++) {
                int month = months[street];
                if (isStarted(month)) sum += never * rises[street * MONTHS + month] - neverRise(months, month);
            }
            return sum;
        }

        private long neverRise(int[] months, int month) {
            long sum = 0;
            for (int street = 0; street < STREETS; street++) {
                if (months[street] == MONTHS) sum += rises[street * MONTHS + month];
            }
            return sum;
        }

        /** The way's number says, STREET by STREET, which of the MONTHS that are left is drawn. */
        private void deal(int way) {
            for (int street = 0; street < STREETS; street++) left[street] = begins[street];
            int rest = way;
            for (int street = 0; street < STREETS; street++) {
                int size = STREETS - street;
                int drawn = Math.floorMod(rest, size);
                rest /= size;
                dealt[street] = left[drawn];
                left[drawn] = left[size - 1];
            }
        }
    }
}
