/** Counts the answers that are not as due and prints each of them. */
final class Due {
    private int wrong = 0;
    private int asked = 0;

    void is(int promise, String call, long got, long want) {
        asked++;
        if (got != want) {
            wrong++;
            System.out.println("promise " + promise + ": " + call + " answered " + got + ", due is " + want);
        }
    }

    void holds(String what, boolean held) {
        asked++;
        if (!held) {
            wrong++;
            System.out.println("does not hold: " + what);
        }
    }

    /** Gives a table a row that it must take. */
    void row(MaskedCopies x, int t, int... cells) {
        for (int v : cells) x.cell(v);
        holds("the row is taken", x.row(t) >= 0);
    }

    void end() {
        if (asked == 0 || wrong > 0) {
            System.out.println(wrong + " of " + asked + " answers are not as due");
            System.exit(1);
        }
    }
}
