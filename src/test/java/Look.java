/**
 * All that later calls can show of an object, in parts, each by fewer calls than an object has.
 * A part may change the object: it is thrown away behind that.
 */
final class Look {
    static final int PARTS = 4;

    private final GoatAbacus x;
    private final long[] row = new long[400];
    private int size;

    private Look(GoatAbacus x) {
        this.x = x;
    }

    static long[] at(GoatAbacus x, int part) {
        Look look = new Look(x);
        switch (part) {
            case 0: look.asItStands(); break;
            case 1: look.heardAs(); break;
            case 2: look.whatCanBeUndone(); break;
            default: look.whatWasKept(); break;
        }
        return java.util.Arrays.copyOf(look.row, look.size);
    }

    private void add(long answer) {
        row[size] = answer;
        size++;
    }

    private void add(boolean answer) {
        add(answer ? 1 : 0);
    }

    private void valley() {
        add(x.number());
        for (int what = 0; what <= 6; what++) {
            add(x.told(what));
        }
        for (int what = 0; what <= 4; what++) {
            add(x.count(what));
        }
        for (int rope = 0; rope < x.count(0); rope++) {
            add(x.rope(rope, 1));
            add(x.rope(rope, 2));
        }
    }

    private void asItStands() {
        valley();
        add(x.fault());
        for (int sum = 0; sum < x.count(1); sum++) {
            add(x.step(sum, -1, 0));
            add(x.tried(sum, 0));
            add(x.tried(sum, 1));
            add(x.tried(sum, 3));
            add(x.herd(sum));
        }
        // PACE, DOG, SHOUT and the goats show in these.
        for (int rope = -1; rope < x.count(0); rope++) {
            add(x.done(987654321, rope));
        }
        add(x.standing(987654321, 1, 3));
        add(x.relay(987654321, 1, 0));
        add(x.relay(987654321, 1, 1));
        for (int what = -1; what <= x.count(3); what++) {
            add(x.fewest(what));
        }
        add(x.added(-1));
        add(x.near());
        add(x.guess(95));
        add(x.confused());
        add(x.odds(0));
        add(x.bell(97));
        add(x.astray(7, 3, -1));
        for (int what = 0; what <= 2; what++) {
            add(x.span(7, 3, what));
        }
    }

    private void heardAs() {
        for (int digit = 0; digit <= 9; digit++) {
            for (int other = 0; other <= 9; other++) {
                add(x.as(10 + digit, 10 + other));
            }
        }
        add(x.as(1, 1));
    }

    /** The TAPE as a SUM, ORDER and the draws by further acts, then back by as many as can be. */
    private void whatCanBeUndone() {
        add(x.text());
        add(x.run(x.count(1) - 1));
        moreActs();
        for (int i = 0; i < 42; i++) {
            add(x.undo());
            add(x.number());
            add(x.told(0));
        }
        moreActs();
    }

    private void whatWasKept() {
        add(x.back());
        valley();
        moreActs();
        add(x.undo());
        add(x.undo());
        add(x.undo());
        add(x.undo());
        valley();
    }

    private void moreActs() {
        x.echo(1, 2, 50);
        x.echo(2, 1, 50);
        add(x.add(121212121, false));
        add(x.number());
        add(x.add(212121212, true));
        add(x.number());
        add(x.act(3));
        for (int what = 0; what <= 6; what++) {
            add(x.told(what));
        }
        add(x.two(0, true));
        add(x.rope(0, 2));
    }
}
