/** What is due and what came: every test class makes one, and ends with its close(). */
final class Due {
    private final String name;
    private int asked;
    private int wrong;

    Due(String name) {
        this.name = name;
    }

    void is(String call, long got, long want) {
        asked++;
        if (got != want) {
            wrong++;
            if (wrong <= 40) {
                System.out.println(name + ": " + call + " answered " + got + ", due is " + want);
            }
        }
    }

    void is(String call, boolean got, boolean want) {
        is(call, got ? 1 : 0, want ? 1 : 0);
    }

    /** The step's answer; 1000 for NoSuchElementException. */
    static int stepOf(GoatAbacus x, int sum, int step, int what) {
        try {
            return x.step(sum, step, what);
        } catch (java.util.NoSuchElementException e) {
            return 1000;
        }
    }

    /** Feeds a text of any length by fives of numbers; answers the last feed's answer. */
    static int feed(GoatAbacus x, String text) {
        int answer = x.count(2);
        for (int from = 0; from < text.length(); from += 20) {
            int[] five = new int[5];
            for (int i = 0; i < 20; i++) {
                int sign = from + i < text.length() ? text.charAt(from + i) : 0;
                five[i / 4] |= sign << 24 - 8 * (i % 4);
            }
            answer = x.feed(five[0], five[1], five[2], five[3], five[4]);
        }
        return answer;
    }

    /** Makes a SUM of a text; answers its number. */
    static int sum(GoatAbacus x, String text) {
        x.end(0);
        feed(x, text);
        return x.text();
    }

    /** So many answers were compared so far. */
    int asked() {
        return asked;
    }

    void close() {
        System.out.println(name + ": " + asked + " answers, " + wrong + " wrong");
        if (wrong != 0 || asked == 0) {
            System.exit(1);
        }
    }
}
