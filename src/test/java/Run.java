import java.util.ArrayList;
import java.util.List;

/**
 * One run of calls on a new object, for one sentence of the document. Behind every call that is due to
 * be refused it is looked at that nothing changed but how many refusals there were.
 */
final class Run {
    private final Due due;
    private final String sentence;
    private final DoorStars x = new DoorStars();
    private final List<Call> taken = new ArrayList<>();
    private final int[] refusals = new int[8];
    private Probe probe = null;
    private int calls = 0;

    Run(Due due, String sentence) {
        this.due = due;
        this.sentence = sentence;
    }

    /** Calls that get the run to where it is asked; none of them is refused. */
    Run did(String... texts) {
        for (String text : texts) {
            Call call = Call.of(text);
            long answer = say(call);
            due.holds(sentence + ": " + call + " was not to be refused, but answered " + answer, !call.isRefusal(answer));
            keep(call);
        }
        return this;
    }

    Run times(int times, String text) {
        for (int i = 0; i < times; i++) did(text);
        return this;
    }

    Run due(String text, long want) {
        Call call = Call.of(text);
        due.is(sentence + ": " + call, say(call), want);
        keep(call);
        return this;
    }

    Run refused(String text, int number) {
        Call call = Call.of(text);
        due.is(sentence + ": " + call, say(call), call.refusal(number));
        refusals[-number]++;
        if (probe == null) probe = new Probe(taken);
        due.same(sentence + ": " + call + " changed", probe.otherBy(call, number), "");
        return this;
    }

    /** A part above and the part below it. */
    Run fraction(String name, String arguments, long above, long below) {
        String open = arguments.isEmpty() ? name + "(" : name + "(" + arguments + ", ";
        return due(open + "0)", above).due(open + "1)", below);
    }

    /** Each refusal was counted once, and nothing else was. */
    void end() {
        for (int kind = 1; kind <= 7; kind++) due("count(" + (10 + kind) + ")", refusals[kind]);
        due.holds(sentence + ": " + calls + " calls are too many", calls <= Probe.CALLS);
    }

    private long say(Call call) {
        calls++;
        return call.on(x);
    }

    private void keep(Call call) {
        taken.add(call);
        probe = null;
    }
}
