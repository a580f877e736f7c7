/** Compares answers with those that are due, prints each that differs, and ends the program. */
final class Due {
    private static final int MOST_PRINTED = 40;
    private final String ahead;
    private int wrong;

    Due() {
        this("");
    }

    /** The words ahead of each answer that is printed tell what it was asked for. */
    Due(String ahead) {
        this.ahead = ahead;
    }

    void is(String call, long got, long want) {
        if (got != want) {
            wrong++;
            if (wrong <= MOST_PRINTED) {
                System.out.println(ahead + call + " answered " + got + ", due is " + want);
            }
        }
    }

    void holds(String what, boolean fact) {
        is(what, fact ? 1 : 0, 1);
    }

    void sameBytes(String what, byte[] got, byte[] want) {
        for (int i = 0; i < 16; i++) {
            is(what + ", byte " + i, got[i] & 255, want[i] & 255);
        }
    }

    boolean isFine() {
        return wrong == 0;
    }

    void end() {
        System.out.println(wrong == 0 ? "all answers are as due" : wrong + " answers are not as due");
        if (wrong != 0) {
            System.exit(1);
        }
    }
}
