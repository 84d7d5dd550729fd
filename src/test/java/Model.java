import java.math.BigInteger;
import java.util.ArrayList;
import java.util.Arrays;
import java.util.List;
import java.util.TreeMap;

/**
 * The document once more, in the slowest and plainest way: lists, day by day, all ways tried, fractions
 * of BigInteger. It shares no code with the program, and ModelTest compares the two.
 */
final class Model {
    static final long LONG = 4000000000000000000L;

    static final class Ratio implements Comparable<Ratio> {
        static final Ratio ZERO = new Ratio(BigInteger.ZERO, BigInteger.ONE);
        final BigInteger above;
        final BigInteger below;

        Ratio(BigInteger above, BigInteger below) {
            BigInteger divisor = above.gcd(below);
            if (below.signum() < 0) divisor = divisor.negate();
            this.above = above.divide(divisor);
            this.below = below.divide(divisor);
        }

        static Ratio of(long above, long below) {
            return new Ratio(BigInteger.valueOf(above), BigInteger.valueOf(below));
        }

        Ratio plus(Ratio o) {
            return new Ratio(above.multiply(o.below).add(o.above.multiply(below)), below.multiply(o.below));
        }

        Ratio minus(Ratio o) {
            return plus(new Ratio(o.above.negate(), o.below));
        }

        Ratio times(Ratio o) {
            return new Ratio(above.multiply(o.above), below.multiply(o.below));
        }

        Ratio by(Ratio o) {
            return new Ratio(above.multiply(o.below), below.multiply(o.above));
        }

        public int compareTo(Ratio o) {
            return above.multiply(o.below).compareTo(o.above.multiply(below));
        }

        long piece(int part) {
            return (part == 0 ? above : below).longValueExact();
        }
    }

    static final class Code {
        int group, points, day, into = -1, turnDay;
    }

    static final class Kitchen {
        int kind, street, mouths, owner, dishes, shown;
        boolean hard;
        final List<int[]> shuts = new ArrayList<>();
    }

    static final class Look {
        int kitchen, inspector, day, known;
        Integer back = null;
        final TreeMap<Integer, Integer> found = new TreeMap<>();
    }

    int now = 0;
    int capacity = 2;
    final List<Code> codes = new ArrayList<>();
    final List<Kitchen> kitchens = new ArrayList<>();
    final List<Look> looks = new ArrayList<>();
    final List<int[]> tables = new ArrayList<>();
    final List<int[]> complaints = new ArrayList<>();
    final int[] mosts = {60, 60, 60, 60, 60};
    final int[] bases = {10, 10, 10, 10};
    final boolean[][] kin = new boolean[5][10];
    final int[] begins = {12, 12, 12, 12, 12, 12};
    final int[][] cases = new int[6][12];
    final int[] refusals = new int[20];

    int no(int number) {
        refusals[-number]++;
        return number;
    }

    long noLong(int number) {
        return LONG - no(number);
    }

    static boolean in(int x, int least, int greatest) {
        return least <= x && x <= greatest;
    }

    int days(int n) {
        if (n < 1) return no(-4);
        if ((long) now + n > 1500) return no(-6);
        return now += n;
    }

    int code(int group, int points, int day) {
        if (!in(group, 0, 4)) return no(-1);
        if (points < 0) return no(-4);
        if (day < now) return no(-4);
        if (points > 50) return no(-6);
        if (day > 1500) return no(-6);
        if (codes.size() == 40) return no(-6);
        Code c = new Code();
        c.group = group;
        c.points = points;
        c.day = day;
        codes.add(c);
        return codes.size() - 1;
    }

    int turn(int code, int into, int day) {
        if (!in(code, 0, codes.size() - 1) || !in(into, 0, codes.size() - 1)) return no(-1);
        if (codes.get(code).into >= 0) return no(-3);
        if (into <= code) return no(-3);
        if (day < now) return no(-4);
        if (day > 1500) return no(-6);
        codes.get(code).into = into;
        codes.get(code).turnDay = day;
        return 1;
    }

    int standing(int code, int day) {
        Code c = codes.get(code);
        return c.into >= 0 && day >= c.turnDay ? standing(c.into, day) : code;
    }

    int stands(int code, int day) {
        if (!in(code, 0, codes.size() - 1)) return no(-1);
        if (day < 0) return no(-4);
        if (day > 1500) return no(-6);
        return standing(code, day);
    }

    int most(int group, int v) {
        if (!in(group, 0, 4)) return no(-1);
        if (v < 0) return no(-4);
        if (v > 200) return no(-6);
        int was = mosts[group];
        mosts[group] = v;
        return was;
    }

    int kitchen(int kind, int street, int mouths, int owner, int dishes) {
        if (!in(kind, 0, 3)) return no(-2);
        if (!in(street, 0, 5)) return no(-1);
        if (!in(owner, 0, 9)) return no(-1);
        if (mouths < 1) return no(-4);
        if (dishes < 0) return no(-4);
        if (mouths > 999) return no(-6);
        if (dishes > 255) return no(-6);
        if (kitchens.size() == 20) return no(-6);
        Kitchen k = new Kitchen();
        k.kind = kind;
        k.street = street;
        k.mouths = mouths;
        k.owner = owner;
        k.dishes = dishes;
        kitchens.add(k);
        return kitchens.size() - 1;
    }

    boolean noKitchen(int kitchen) {
        return !in(kitchen, 0, kitchens.size() - 1);
    }

    int hard(int kitchen, boolean on) {
        if (noKitchen(kitchen)) return no(-1);
        Kitchen k = kitchens.get(kitchen);
        int answer = k.hard == on ? 0 : 1;
        k.hard = on;
        return answer;
    }

    int kin(int inspector, int owner, boolean on) {
        if (!in(inspector, 0, 4) || !in(owner, 0, 9)) return no(-1);
        int answer = kin[inspector][owner] == on ? 0 : 1;
        kin[inspector][owner] = on;
        return answer;
    }

    int look(int kitchen, int inspector, int day) {
        if (noKitchen(kitchen) || !in(inspector, 0, 4)) return no(-1);
        if (kin[inspector][kitchens.get(kitchen).owner]) return no(-7);
        if (day > now) return no(-3);
        if (day < 0) return no(-4);
        if (looks.size() == 80) return no(-6);
        Look l = new Look();
        l.kitchen = kitchen;
        l.inspector = inspector;
        l.day = day;
        l.known = now;
        looks.add(l);
        return looks.size() - 1;
    }

    int find(int code, int n) {
        if (!in(code, 0, codes.size() - 1)) return no(-1);
        if (looks.isEmpty()) return no(-3);
        Look l = looks.get(looks.size() - 1);
        if (l.back != null) return no(-3);
        if (codes.get(code).day > l.day) return no(-3);
        if (n < 1) return no(-4);
        if (n > 9) return no(-6);
        int sum = l.found.getOrDefault(code, 0) + n;
        if (sum > 99) return no(-6);
        l.found.put(code, sum);
        return sum;
    }

    int back(int look) {
        if (!in(look, 0, looks.size() - 1)) return no(-1);
        if (looks.get(look).back != null) return no(-3);
        looks.get(look).back = now;
        return 1;
    }

    int scoreOf(Look l, int day) {
        int[] sums = new int[5];
        l.found.forEach((code, times) -> {
            Code c = codes.get(standing(code, day));
            sums[c.group] += c.points * times;
        });
        int all = 0;
        for (int g = 0; g < 5; g++) all += sums[g] > mosts[g] ? mosts[g] : sums[g];
        return all;
    }

    int score(int look, int day) {
        if (!in(look, 0, looks.size() - 1)) return no(-1);
        if (day < 0) return no(-4);
        if (day > 1500) return no(-6);
        return scoreOf(looks.get(look), day);
    }

    int table(int day, int b4, int b3, int b2, int b1) {
        if (day < now || b4 < 0 || b3 < 0 || b2 < 0 || b1 < 0) return no(-4);
        if (b4 > b3 || b3 > b2 || b2 > b1) return no(-4);
        if (day > 1500 || b4 > 999 || b3 > 999 || b2 > 999 || b1 > 999) return no(-6);
        if (tables.size() == 10) return no(-6);
        tables.add(new int[] {day, b4, b3, b2, b1});
        return tables.size() - 1;
    }

    int starBy(int day, Ratio score) {
        int[] inForce = null;
        for (int[] t : tables) {
            if (t[0] > day) continue;
            if (inForce == null || t[0] > inForce[0] || t[0] == inForce[0]) inForce = t;
        }
        if (inForce == null) return 0;
        if (score.compareTo(Ratio.of(inForce[1], 1)) < 0) return 5;
        if (score.compareTo(Ratio.of(inForce[2], 1)) < 0) return 4;
        if (score.compareTo(Ratio.of(inForce[3], 1)) < 0) return 3;
        if (score.compareTo(Ratio.of(inForce[4], 1)) < 0) return 2;
        return 1;
    }

    Look latest(int kitchen, int j, int k) {
        Look best = null;
        for (Look l : looks) {
            if (l.kitchen != kitchen || l.day > j || l.known > k) continue;
            if (l.back != null && l.back <= k) continue;
            if (best == null || l.day >= best.day) best = l;
        }
        return best;
    }

    int starOf(int kitchen, int j, int k) {
        Look l = latest(kitchen, j, k);
        return l == null ? 0 : starBy(l.day, Ratio.of(scoreOf(l, l.day), 1));
    }

    int star(int kitchen, int j, int k) {
        if (noKitchen(kitchen)) return no(-1);
        if (j < 0 || k < 0) return no(-4);
        if (j > 1500 || k > 1500) return no(-6);
        return starOf(kitchen, j, k);
    }

    int show(int kitchen, int star) {
        if (noKitchen(kitchen)) return no(-1);
        if (star < 0) return no(-4);
        if (star > 5) return no(-6);
        int was = kitchens.get(kitchen).shown;
        kitchens.get(kitchen).shown = star;
        return was;
    }

    int falses() {
        int sum = 0;
        for (int k = 0; k < kitchens.size(); k++) if (kitchens.get(k).shown > starOf(k, now, now)) sum++;
        return sum;
    }

    int base(int kind, int v) {
        if (!in(kind, 0, 3)) return no(-2);
        if (v < 1) return no(-4);
        if (v > 50) return no(-6);
        int was = bases[kind];
        bases[kind] = v;
        return was;
    }

    int riskOf(int kitchen) {
        Kitchen k = kitchens.get(kitchen);
        int star = starOf(kitchen, now, now);
        return bases[k.kind] + k.mouths / 50 + (star == 0 ? 24 : 8 * (5 - star));
    }

    int dueOf(int kitchen) {
        Look l = latest(kitchen, now, now);
        if (l == null) return 0;
        int span = 400 / riskOf(kitchen);
        return l.day + (span < 20 ? 20 : span);
    }

    int costOf(int kitchen, int t) {
        int due = dueOf(kitchen);
        if (t <= due) return 0;
        int cost = riskOf(kitchen) * (t - due);
        for (int behind = 30; behind <= t - due; behind += 30) cost = cost + cost / 10;
        return cost;
    }

    int risk(int kitchen, int what) {
        if (noKitchen(kitchen)) return no(-1);
        if (!in(what, 0, 1)) return no(-2);
        return what == 0 ? riskOf(kitchen) : dueOf(kitchen);
    }

    int delay(int kitchen, int day) {
        if (noKitchen(kitchen)) return no(-1);
        if (day < 0) return no(-4);
        if (day > 1500) return no(-6);
        return costOf(kitchen, day);
    }

    int capacity(int v) {
        if (v < 1) return no(-4);
        if (v > 9) return no(-6);
        int was = capacity;
        capacity = v;
        return was;
    }

    /** All ways, in the order in which the document prefers them; a way that already costs as much is left. */
    final class Search {
        final List<Integer> among = new ArrayList<>();
        final int n;
        final int[][] used = new int[5][3];
        final int[][] price;
        final int[] floor;
        final int[] day;
        final int[] hands;
        int best = Integer.MAX_VALUE;
        int[] bestDay;
        int[] bestHands;

        Search(int n) {
            this.n = n;
            List<Integer> late = new ArrayList<>();
            for (int k = 0; k < kitchens.size(); k++) if (dueOf(k) < now + 7) late.add(k);
            int[] cost = new int[20];
            for (int k : late) cost[k] = costOf(k, now + 7);
            late.sort((a, b) -> cost[a] != cost[b] ? Integer.compare(cost[b], cost[a]) : Integer.compare(a, b));
            among.addAll(late.subList(0, Math.min(6, late.size())));
            among.sort(null);
            int size = among.size();
            price = new int[size][6];
            floor = new int[size + 1];
            day = new int[size];
            hands = new int[size];
            for (int i = 0; i < size; i++) {
                for (int d = 0; d < 5; d++) price[i][d] = costOf(among.get(i), now + d);
                price[i][5] = 2 * costOf(among.get(i), now + 7);
            }
            for (int i = size - 1; i >= 0; i--) floor[i] = floor[i + 1] + price[i][0];
            go(0, 0);
        }

        void go(int i, int spent) {
            if (spent + floor[i] >= best) return;
            if (i == among.size()) {
                best = spent;
                bestDay = day.clone();
                bestHands = hands.clone();
                return;
            }
            Kitchen k = kitchens.get(among.get(i));
            for (int d = 0; d < 5; d++) {
                for (int bits = 1; bits < 1 << n; bits++) {
                    if (Integer.bitCount(bits) != (k.hard ? 2 : 1) || !free(d, bits, k.owner)) continue;
                    for (int x = 0; x < n; x++) used[d][x] += bits >> x & 1;
                    day[i] = d;
                    hands[i] = bits;
                    go(i + 1, spent + price[i][d]);
                    for (int x = 0; x < n; x++) used[d][x] -= bits >> x & 1;
                }
            }
            day[i] = 5;
            hands[i] = 0;
            go(i + 1, spent + price[i][5]);
        }

        boolean free(int d, int bits, int owner) {
            for (int x = 0; x < n; x++) {
                if ((bits >> x & 1) == 1 && (kin[x][owner] || used[d][x] >= capacity)) return false;
            }
            return true;
        }
    }

    int rounds(int n) {
        if (n < 1) return no(-4);
        if (n > 3) return no(-6);
        if (now + 7 > 1500) return no(-6);
        return new Search(n).best;
    }

    int roundOf(int n, int kitchen, int what) {
        if (noKitchen(kitchen)) return no(-1);
        if (!in(what, 0, 1)) return no(-2);
        if (n < 1) return no(-4);
        if (n > 3) return no(-6);
        if (now + 7 > 1500) return no(-6);
        Search s = new Search(n);
        int at = s.among.indexOf(kitchen);
        if (at < 0) return what == 0 ? -9 : 0;
        if (what == 1) return s.bestHands[at];
        return s.bestDay[at] == 5 ? -9 : now + s.bestDay[at];
    }

    List<Look[]> pairs() {
        List<Look[]> all = new ArrayList<>();
        for (Look a : looks) {
            for (Look b : looks) {
                if (a.inspector < b.inspector && a.kitchen == b.kitchen && a.day == b.day
                        && a.back == null && b.back == null) {
                    all.add(new Look[] {a, b});
                }
            }
        }
        return all;
    }

    int doubles() {
        return pairs().size();
    }

    /** null for an INSPECTOR in no DOUBLE; Gauss' elimination over each joined set. */
    Ratio[] habitsNow() {
        Ratio[] h = new Ratio[5];
        List<Look[]> pairs = pairs();
        int[] set = {0, 1, 2, 3, 4};
        boolean[] met = new boolean[5];
        for (int again = 0; again < 5; again++) {
            for (Look[] p : pairs) {
                met[p[0].inspector] = met[p[1].inspector] = true;
                int low = Math.min(set[p[0].inspector], set[p[1].inspector]);
                set[p[0].inspector] = low;
                set[p[1].inspector] = low;
            }
        }
        for (int root = 0; root < 5; root++) {
            if (!met[root] || set[root] != root) continue;
            h[root] = Ratio.ZERO;
            List<Integer> unknown = new ArrayList<>();
            for (int i = root + 1; i < 5; i++) if (set[i] == root) unknown.add(i);
            solve(unknown, pairs, h);
        }
        return h;
    }

    private void solve(List<Integer> unknown, List<Look[]> pairs, Ratio[] h) {
        int m = unknown.size();
        Ratio[][] a = new Ratio[m][m + 1];
        for (Ratio[] row : a) Arrays.fill(row, Ratio.ZERO);
        for (Look[] p : pairs) {
            for (int side = 0; side < 2; side++) {
                Look mine = p[side];
                Look other = p[1 - side];
                int i = unknown.indexOf(mine.inspector);
                int k = unknown.indexOf(other.inspector);
                if (i < 0) continue;
                a[i][i] = a[i][i].plus(Ratio.of(1, 1));
                if (k >= 0) a[i][k] = a[i][k].minus(Ratio.of(1, 1));
                a[i][m] = a[i][m].plus(Ratio.of(scoreOf(mine, mine.day) - scoreOf(other, other.day), 1));
            }
        }
        for (int c = 0; c < m; c++) {
            int pivot = c;
            while (a[pivot][c].above.signum() == 0) pivot++;
            Ratio[] swapped = a[c];
            a[c] = a[pivot];
            a[pivot] = swapped;
            for (int r = 0; r < m; r++) {
                if (r == c) continue;
                Ratio factor = a[r][c].by(a[c][c]);
                for (int x = 0; x <= m; x++) a[r][x] = a[r][x].minus(factor.times(a[c][x]));
            }
        }
        for (int i = 0; i < m; i++) h[unknown.get(i)] = a[i][m].by(a[i][i]);
    }

    long habit(int inspector, int part) {
        if (!in(inspector, 0, 4)) return noLong(-1);
        if (!in(part, 0, 1)) return noLong(-2);
        Ratio h = habitsNow()[inspector];
        return h == null ? noLong(-3) : h.piece(part);
    }

    Ratio evenedOf(Look l) {
        Ratio h = habitsNow()[l.inspector];
        return Ratio.of(scoreOf(l, l.day), 1).minus(h == null ? Ratio.ZERO : h);
    }

    long evened(int look, int part) {
        if (!in(look, 0, looks.size() - 1)) return noLong(-1);
        if (!in(part, 0, 1)) return noLong(-2);
        return evenedOf(looks.get(look)).piece(part);
    }

    int others() {
        int sum = 0;
        for (int k = 0; k < kitchens.size(); k++) {
            int star = starOf(k, now, now);
            if (star == 0) continue;
            Look l = latest(k, now, now);
            if (starBy(l.day, evenedOf(l)) != star) sum++;
        }
        return sum;
    }

    int swap(int seed, int n, int inspector) {
        if (seed < 0 || n < 2) return no(-4);
        if (seed > 9999 || n > 5) return no(-6);
        if (!in(inspector, 0, n - 1)) return no(-1);
        List<Integer> seats = new ArrayList<>();
        for (int i = 0; i < n; i++) seats.add(i);
        long s = seed;
        for (int i = n - 1; i >= 1; i--) {
            s = (s * 37 + 101) % 10007;
            java.util.Collections.swap(seats, i, (int) (s % (i + 1)));
        }
        return seats.get(inspector);
    }

    int shut(int kitchen, int from, int to) {
        if (noKitchen(kitchen)) return no(-1);
        if (from < 0 || to < 0 || to < from) return no(-4);
        if (from > 1500 || to > 1500) return no(-6);
        if (kitchens.get(kitchen).shuts.size() == 8) return no(-6);
        kitchens.get(kitchen).shuts.add(new int[] {from, to});
        return kitchens.get(kitchen).shuts.size();
    }

    int complaint(int street, int from, int to, int dish) {
        if (!in(street, 0, 5) || !in(dish, 0, 7)) return no(-1);
        if (from < 0 || to < 0 || to < from) return no(-4);
        if (from > 1500 || to > 1500) return no(-6);
        if (complaints.size() == 20) return no(-6);
        complaints.add(new int[] {street, from, to, dish});
        return complaints.size() - 1;
    }

    long weight(int complaint, int kitchen) {
        int[] c = complaints.get(complaint);
        Kitchen k = kitchens.get(kitchen);
        if (k.street != c[0] || (k.dishes & 1 << c[3]) == 0) return 0;
        long open = 0;
        for (int day = c[1]; day <= c[2]; day++) {
            boolean shut = false;
            for (int[] s : k.shuts) shut |= s[0] <= day && day <= s[1];
            if (!shut) open++;
        }
        return open * k.mouths;
    }

    Ratio partOf(int complaint, int kitchen) {
        long all = 0;
        for (int k = 0; k < kitchens.size(); k++) all += weight(complaint, k);
        return all == 0 ? Ratio.ZERO : Ratio.of(weight(complaint, kitchen), all);
    }

    int part(int complaint, int kitchen, int part) {
        if (!in(complaint, 0, complaints.size() - 1) || noKitchen(kitchen)) return no(-1);
        if (!in(part, 0, 1)) return no(-2);
        return (int) partOf(complaint, kitchen).piece(part);
    }

    int joinedTo(int complaint) {
        for (int k = 0; k < kitchens.size(); k++) {
            if (partOf(complaint, k).compareTo(Ratio.of(1, 2)) > 0) return k;
        }
        return -9;
    }

    int joined(int complaint) {
        if (!in(complaint, 0, complaints.size() - 1)) return no(-1);
        return joinedTo(complaint);
    }

    int began(int street, int month) {
        if (!in(street, 0, 5)) return no(-1);
        if (month < 0) return no(-4);
        if (month > 12) return no(-6);
        int was = begins[street];
        begins[street] = month;
        return was;
    }

    int cases(int street, int month, int n) {
        if (!in(street, 0, 5) || !in(month, 0, 11)) return no(-1);
        if (n < 0) return no(-4);
        if (n > 999) return no(-6);
        int was = cases[street][month];
        cases[street][month] = n;
        return was;
    }

    private Ratio difference(long[] byMonth, int month, int streets) {
        long from = 0;
        long ahead = 0;
        for (int m = 0; m < 12; m++) {
            if (m >= month) from += byMonth[m];
            else ahead += byMonth[m];
        }
        return Ratio.of(from, (12L - month) * streets).minus(Ratio.of(ahead, (long) month * streets));
    }

    Ratio effectBy(int[] months) {
        long[] together = new long[12];
        int never = 0;
        for (int s = 0; s < 6; s++) {
            if (months[s] != 12) continue;
            never++;
            for (int m = 0; m < 12; m++) together[m] += cases[s][m];
        }
        Ratio sum = Ratio.ZERO;
        int these = 0;
        for (int s = 0; s < 6 && never > 0; s++) {
            if (months[s] == 0 || months[s] == 12) continue;
            these++;
            long[] own = new long[12];
            for (int m = 0; m < 12; m++) own[m] = cases[s][m];
            sum = sum.plus(difference(own, months[s], 1)).minus(difference(together, months[s], never));
        }
        return these == 0 ? null : sum.by(Ratio.of(these, 1));
    }

    long effect(int part) {
        if (!in(part, 0, 1)) return noLong(-2);
        Ratio e = effectBy(begins);
        return e == null ? noLong(-3) : e.piece(part);
    }

    private int ways(int street, int used, int[] dealt, Ratio limit) {
        if (street == 6) return effectBy(dealt).compareTo(limit) <= 0 ? 1 : 0;
        int sum = 0;
        for (int from = 0; from < 6; from++) {
            if ((used >> from & 1) == 1) continue;
            dealt[street] = begins[from];
            sum += ways(street + 1, used | 1 << from, dealt, limit);
        }
        return sum;
    }

    int chance() {
        Ratio e = effectBy(begins);
        return e == null ? -9 : ways(0, 0, new int[6], e);
    }

    int helped() {
        Ratio e = effectBy(begins);
        return e != null && e.above.signum() < 0 && chance() <= 36 ? 1 : 0;
    }

    int count(int what) {
        if (what == 0) return now;
        if (what == 1) return codes.size();
        if (what == 2) return kitchens.size();
        if (what == 3) return looks.size();
        if (what == 4) return (int) looks.stream().filter(l -> l.back != null).count();
        if (what == 5) return tables.size();
        if (what == 6) return complaints.size();
        if (what == 7) {
            int sum = 0;
            for (int c = 0; c < complaints.size(); c++) if (joinedTo(c) >= 0) sum++;
            return sum;
        }
        return in(what, 11, 17) ? refusals[what - 10] : -9;
    }
}
