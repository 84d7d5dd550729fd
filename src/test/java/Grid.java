import java.util.ArrayList;
import java.util.List;
import java.util.function.Predicate;
import java.util.function.ToLongFunction;

/**
 * One call with all its arguments at their edges, each with each. An argument's values are told as
 * "-1=-4 0 50 51=-6": -1 is refused with -4, 0 and 50 are taken, 51 is refused with -6. Of several
 * refusals the first in the order in which the document tells them is due.
 */
final class Grid {
    private final Due due;
    private final String name;
    private final int[] order;
    private final List<Call> history = new ArrayList<>();
    private final List<int[]> values = new ArrayList<>();
    private final List<int[]> numbers = new ArrayList<>();
    private final List<Predicate<int[]>> conditions = new ArrayList<>();
    private final List<Integer> conditionNumbers = new ArrayList<>();
    private ToLongFunction<int[]> answer = null;

    Grid(Due due, String name, int... order) {
        this.due = due;
        this.name = name;
        this.order = order;
    }

    Grid after(String... calls) {
        for (String call : calls) history.add(Call.of(call));
        return this;
    }

    Grid afterTimes(int times, String call) {
        for (int i = 0; i < times; i++) after(call);
        return this;
    }

    Grid argument(String told) {
        String[] words = told.split(" ");
        int[] these = new int[words.length];
        int[] refused = new int[words.length];
        for (int i = 0; i < words.length; i++) {
            String[] sides = words[i].split("=");
            these[i] = Call.number(sides[0]);
            refused[i] = sides.length > 1 ? Integer.parseInt(sides[1]) : 0;
        }
        values.add(these);
        numbers.add(refused);
        return this;
    }

    Grid refusedIf(int number, Predicate<int[]> condition) {
        conditionNumbers.add(number);
        conditions.add(condition);
        return this;
    }

    Grid refused(int number) {
        return refusedIf(number, a -> true);
    }

    Grid answers(ToLongFunction<int[]> taken) {
        answer = taken;
        return this;
    }

    void go() {
        DoorStars x = new DoorStars();
        for (Call call : history) {
            long got = call.on(x);
            due.holds(name + ": " + call + " ahead of it answered " + got, !call.isRefusal(got));
        }
        Probe probe = new Probe(history);
        int all = 1;
        for (int[] these : values) all *= these.length;
        for (int way = 0; way < all; way++) ask(way, probe);
    }

    private void ask(int way, Probe probe) {
        int[] arguments = new int[values.size()];
        boolean[] fits = new boolean[8];
        int rest = way;
        for (int i = 0; i < arguments.length; i++) {
            int at = rest % values.get(i).length;
            rest /= values.get(i).length;
            arguments[i] = values.get(i)[at];
            fits[-numbers.get(i)[at]] = true;
        }
        for (int i = 0; i < conditions.size(); i++) {
            if (conditions.get(i).test(arguments)) fits[-conditionNumbers.get(i)] = true;
        }
        Call call = Call.of(name, arguments);
        DoorStars x = new DoorStars();
        for (Call earlier : history) earlier.on(x);
        long got = call.on(x);
        int number = firstOf(fits);
        if (number == 0) {
            if (answer == null) due.holds(call + " was not to be refused, but answered " + got, !call.isRefusal(got));
            else due.is(call.toString(), got, answer.applyAsLong(arguments));
        } else {
            due.is(call.toString(), got, call.refusal(number));
            due.same(call + " changed", probe.otherBy(call, number), "");
        }
    }

    private int firstOf(boolean[] fits) {
        for (int number : order) {
            if (fits[-number]) return number;
        }
        for (int kind = 1; kind < fits.length; kind++) {
            if (fits[kind]) throw new IllegalStateException(name + " has no place for -" + kind);
        }
        return 0;
    }
}
