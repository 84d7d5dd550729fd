import java.util.ArrayList;
import java.util.List;

/**
 * What an object holds, told by what it answers. An object is good for 512 calls only, so the questions
 * are parted over as many objects as they need, each with the same calls behind it.
 */
final class Probe {
    static final int CALLS = 512;

    private final List<Call> history;
    private final List<Call> questions = new ArrayList<>();
    private final long[] before;
    private final long[] refusalsBefore;

    Probe(List<Call> history) {
        this.history = new ArrayList<>(history);
        DoorStars x = replay(null);
        ask(x.count(0), x.count(1), x.count(2), x.count(3), x.count(6));
        before = answers(null);
        refusalsBefore = refusals(null);
    }

    /** What is other if this call comes first, that is refused with this number; empty if nothing is. */
    String otherBy(Call refused, int number) {
        long[] after = answers(refused);
        for (int i = 0; i < after.length; i++) {
            if (after[i] != before[i]) return questions.get(i) + " " + after[i] + " for " + before[i];
        }
        long[] refusals = refusals(refused);
        for (int kind = 1; kind <= 7; kind++) {
            long due = refusalsBefore[kind] + (kind == -number ? 1 : 0);
            if (refusals[kind] != due) return "refusals -" + kind + " " + refusals[kind] + " for " + due;
        }
        return "";
    }

    private DoorStars replay(Call last) {
        DoorStars x = new DoorStars();
        for (Call call : history) call.on(x);
        if (last != null) last.on(x);
        return x;
    }

    private long[] answers(Call last) {
        long[] all = new long[questions.size()];
        int room = CALLS - history.size() - 1;
        DoorStars x = null;
        for (int i = 0; i < all.length; i++) {
            if (i % room == 0) x = replay(last);
            all[i] = questions.get(i).on(x);
        }
        return all;
    }

    private long[] refusals(Call last) {
        DoorStars x = replay(last);
        long[] all = new long[8];
        for (int kind = 1; kind <= 7; kind++) all[kind] = x.count(10 + kind);
        return all;
    }

    private void say(String name, int... numbers) {
        questions.add(Call.of(name, numbers));
    }

    private void ask(int now, int codes, int kitchens, int looks, int complaints) {
        for (int what = 0; what <= 7; what++) say("count", what);
        for (String name : new String[] {"falses", "doubles", "others", "chance", "helped"}) say(name);
        for (int part = 0; part < 2; part++) {
            say("effect", part);
            for (int inspector = 0; inspector < 5; inspector++) say("habit", inspector, part);
        }
        for (int code = 0; code < codes; code++) askOfCode(code, now);
        for (int kitchen = 0; kitchen < kitchens; kitchen++) askOfKitchen(kitchen, now);
        for (int look = 0; look < looks; look++) askOfLook(look, now);
        for (int complaint = 0; complaint < complaints; complaint++) {
            say("joined", complaint);
            for (int kitchen = 0; kitchen < Math.min(kitchens, 3); kitchen++) say("part", complaint, kitchen, 1);
        }
        for (int n = 1; n <= 3; n++) say("rounds", n);
        change(now, codes, kitchens, looks);
    }

    private void askOfCode(int code, int now) {
        say("stands", code, 0);
        say("stands", code, now);
        say("stands", code, 1500);
    }

    private void askOfKitchen(int kitchen, int now) {
        say("star", kitchen, now, now);
        say("star", kitchen, 0, 1500);
        say("star", kitchen, 1500, Math.max(0, now - 1));
        say("risk", kitchen, 0);
        say("risk", kitchen, 1);
        say("delay", kitchen, 1500);
        say("roundOf", 2, kitchen, 0);
        say("roundOf", 2, kitchen, 1);
    }

    private void askOfLook(int look, int now) {
        say("score", look, 0);
        say("score", look, now);
        say("evened", look, 0);
        say("evened", look, 1);
    }

    /** Calls that change something tell what it was, or the number of the next. */
    private void change(int now, int codes, int kitchens, int looks) {
        for (int code = 0; code < codes; code++) {
            say("find", code, 1);
            say("turn", code, codes - 1, 1500);
        }
        for (int kitchen = 0; kitchen < kitchens; kitchen++) {
            say("show", kitchen, 0);
            say("hard", kitchen, 1);
            say("shut", kitchen, 0, 0);
        }
        for (int look = 0; look < looks; look++) say("back", look);
        say("kitchen", 0, 0, 1, 0, 0);
        say("look", 0, 4, now);
        say("code", 0, 0, 1500);
        say("table", 1500, 0, 0, 0, 0);
        say("complaint", 0, 0, 0, 0);
        say("capacity", 1);
        for (int group = 0; group < 5; group++) say("most", group, 0);
        for (int kind = 0; kind < 4; kind++) say("base", kind, 1);
        for (int inspector = 0; inspector < 5; inspector++) {
            for (int owner = 0; owner < 10; owner++) say("kin", inspector, owner, 1);
        }
        for (int street = 0; street < 6; street++) {
            say("began", street, 0);
            for (int month = 0; month < 12; month++) say("cases", street, month, 0);
        }
    }
}
