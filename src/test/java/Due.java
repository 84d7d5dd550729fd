/** Compares answers with those that are due, prints each that is not, and ends a test. */
final class Due {
    private int wrong = 0;
    private int asked = 0;

    void is(String call, long got, long want) {
        asked++;
        if (got != want) tell(call + " answered " + got + ", due is " + want);
    }

    void holds(String what, boolean so) {
        is(what, so ? 1 : 0, 1);
    }

    void same(String what, String got, String want) {
        asked++;
        if (!got.equals(want)) tell(what + ": " + got);
    }

    void finish() {
        System.out.println("  " + asked + " answers, " + wrong + " not as due");
        if (wrong != 0 || asked == 0) System.exit(1);
    }

    private void tell(String line) {
        wrong++;
        if (wrong <= 50) System.out.println("  " + line);
    }
}
