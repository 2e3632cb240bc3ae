/** Promises 1, 7 to 17 and 46 to 48: ropes, what is set, ACTS, what is UNDONE, IMAGES, counts. */
public final class ActsTest {
    private static final Due due = new Due("ActsTest");

    private static void told(GoatAbacus x, String when, int... want) {
        for (int what = 0; what < want.length; what++) {
            due.is(when + ": told(" + what + ")", x.told(what), want[what]);
        }
    }

    private static void fresh() {
        int[][] ropes = {{Integer.MIN_VALUE, 2}, {-1, 2}, {0, 2}, {1, 2}, {2, 2}, {3, 3}, {11, 11}, {12, 12},
            {13, 12}, {Integer.MAX_VALUE, 12}};
        for (int[] r : ropes) {
            GoatAbacus x = new GoatAbacus(r[0]);
            due.is("ropes of " + r[0], x.count(0), r[1]);
            for (int rope = 0; rope < r[1]; rope++) {
                due.is("digit", x.rope(rope, 0), 0);
                due.is("goats", x.rope(rope, 1), 9);
                due.is("seen", x.rope(rope, 2), 0);
                due.is("what 3", x.rope(rope, 3), -1);
                due.is("what -1", x.rope(rope, -1), -1);
            }
            due.is("no rope", x.rope(r[1], 0), -1);
            due.is("no rope", x.rope(-1, 0), -1);
            due.is("number", x.number(), 0);
            told(x, "new", 0, 0, 0, 0, 0, 0, 0, -1);
            due.is("told(-1)", x.told(-1), -1);
            for (int what = 1; what <= 4; what++) {
                due.is("count", x.count(what), 0);
            }
            due.is("count(5)", x.count(5), -1);
            due.is("count(-1)", x.count(-1), -1);
            due.is("undo", x.undo(), -1);
            due.is("back", x.back(), -1);
        }
    }

    private static void settings() {
        GoatAbacus x = new GoatAbacus(3);
        int[][] bounds = {{0, 0, 1}, {1, 1, 9}, {2, 0, 9}, {3, 0, 9}};
        for (int[] b : bounds) {
            due.is("set below", x.set(b[0], b[1] - 1), false);
            due.is("set above", x.set(b[0], b[2] + 1), false);
            due.is("set least", x.set(b[0], b[1]), true);
            due.is("set most", x.set(b[0], b[2]), true);
        }
        due.is("set -1", x.set(-1, 1), false);
        due.is("set 4", x.set(4, 1), false);
        due.is("pace and dog count at the time", x.add(19, false), 1);
        told(x, "pace 9, dog 9", 10, 0, 90);
        x.set(1, 2);
        x.set(2, 3);
        due.is("add", x.add(1, false), 2);
        // 9 to 0 (9 walks), 1 to 2 (1 walk), one carry: 20 minutes and 3.
        told(x, "pace 2, dog 3", 20, 1, 113);
        x.set(1, 9);
        told(x, "a new pace changes nothing that was", 20, 1, 113);
    }

    private static void orders() {
        GoatAbacus x = new GoatAbacus(3);
        x.add(95, false);
        told(x, "95", 14, 0, 14);
        x.image();
        // ORDER 0: 5 to 0 with a carry: 9 to 0 with a carry: 0 to 1; then 0 and 5: 5.
        x.add(55, false);
        due.is("95 and 55", x.number(), 150);
        told(x, "ORDER 0", 14 + 5 + 9 + 1 + 5, 2, 14 + 20 + 4);
        x.back();
        due.is("set", x.set(0, 1), true);
        // ORDER 1: 9 and 5: 4 (5 walks) with a carry (1); then 5 to 0 (5) with a carry: 4 to 5 (1).
        x.add(55, false);
        due.is("95 and 55", x.number(), 150);
        told(x, "ORDER 1", 14 + 5 + 1 + 5 + 1, 2, 14 + 12 + 4);
        x.add(151, true);
        due.is("150 less 151", x.number(), 999);
        due.is("over", x.told(3), 1);
    }

    private static void overs() {
        GoatAbacus x = new GoatAbacus(2);
        x.add(99, false);
        x.add(1, false);
        due.is("over the last", x.number(), 0);
        told(x, "lost", 18 + 18, 2, 36 + 4, 1);
        x.add(1200, false);
        due.is("lost digits", x.number(), 0);
        told(x, "lost digits", 36, 2, 40, 2);
        x.add(999999999, true);
        due.is("off", x.number(), 1);
        // 0 to 1 (1), 0 to 9 (9) with a carry that is lost; then 9 to 0; higher ones lost.
        told(x, "off", 36 + 1 + 9 + 9, 4, 40 + 19 + 4, 4);
        due.is("add(1000000000)", x.add(1000000000, false), -1);
        due.is("add(-1)", x.add(-1, true), -1);
        due.is("add(0)", x.add(0, false), 5);
        told(x, "nothing added", 55, 4, 63, 4, 0, 0, 5);
    }

    private static void shorts() {
        GoatAbacus x = new GoatAbacus(3);
        due.is("goats", x.goats(0, 4), true);
        due.is("goats 12", x.goats(1, 12), true);
        due.is("goats 0", x.goats(2, 0), true);
        due.is("goats -1", x.goats(0, -1), false);
        due.is("goats 13", x.goats(0, 13), false);
        due.is("no rope", x.goats(3, 5), false);
        due.is("no rope", x.goats(-1, 5), false);
        x.add(119, false);
        due.is("119 with too few", x.number(), 14);
        told(x, "119", 5, 0, 5, 0, 6);
        due.is("fewer than its digit", x.goats(0, 3), false);
        due.is("as many as its digit", x.goats(0, 4), true);
        // 4 less 5: 9, but 4; 1 is driven off: 0.
        x.add(5, true);
        due.is("5 off", x.number(), 4);
        told(x, "5 off", 6, 1, 8, 0, 11);
        x.act(4);
        x.add(10, false);
        x.act(3);
        // 10 halved: 0, and 5 of which 4 can.
        due.is("10 halved", x.number(), 4);
        told(x, "halved", 6 + 4 + 1 + 1 + 4, 1, 18, 0, 12, 0, 5);
        x.act(3);
        x.act(3);
        x.act(3);
        due.is("left", x.told(5), 1);
        x.act(4);
        due.is("left stays", x.told(5), 1);
    }

    private static void doubles() {
        GoatAbacus x = new GoatAbacus(2);
        x.add(77, false);
        due.is("double", x.act(2), 2);
        due.is("77 twice", x.number(), 54);
        // 7 to 4 (3) and lost; 7 to 4 (3), 4 to 5 (1).
        told(x, "77 twice", 14 + 7, 2, 14 + 7 + 4, 1);
        due.is("act(1)", x.act(1), -1);
        due.is("act(5)", x.act(5), -1);
        due.is("act(-1)", x.act(-1), -1);
        due.is("acts", x.told(6), 2);
        due.is("empty", x.act(4), 3);
        told(x, "empty", 21 + 9, 2, 25 + 9, 1, 0, 0, 3);
    }

    private static void echoes() {
        GoatAbacus x = new GoatAbacus(4);
        due.is("echo", x.echo(1, 2, 60), true);
        due.is("echo", x.echo(1, 3, 41), false);
        due.is("echo", x.echo(1, 3, 40), true);
        due.is("told anew", x.echo(1, 2, 61), false);
        due.is("told anew", x.echo(1, 2, 10), true);
        due.is("alike", x.echo(1, 1, 0), false);
        due.is("digit 10", x.echo(10, 1, 1), false);
        due.is("digit -1", x.echo(-1, 1, 1), false);
        due.is("as 10", x.echo(1, 10, 1), false);
        due.is("as -1", x.echo(1, -1, 1), false);
        due.is("101", x.echo(2, 1, 101), false);
        due.is("-1", x.echo(2, 1, -1), false);
        long[] seeds = {0, 1, 5, -1, 123456789012345L, Long.MIN_VALUE};
        for (long seed : seeds) {
            x.wind(seed);
            long state = seed;
            for (int i = 0; i < 12; i++) {
                x.act(4);
                x.add(7181, false);
                long want = 0;
                int[] digits = {1, 8, 1, 7};
                long[] ten = {1, 10, 100, 1000};
                for (int k = 0; k < 4; k++) {
                    state = state * 6364136223846793005L + 1442695040888963407L;
                    long draw = (state >>> 33) % 100;
                    int heard = digits[k] != 1 ? digits[k] : draw < 10 ? 2 : draw < 50 ? 3 : 1;
                    want += heard * ten[k];
                }
                due.is("heard by " + seed, x.number(), want);
            }
        }
        x.echo(1, 2, 100);
        due.is("above 100 together", x.told(0) >= 0, true);
    }

    private static void zeroIsHeardToo() {
        GoatAbacus x = new GoatAbacus(4);
        x.echo(0, 9, 100);
        x.add(0, false);
        due.is("nothing is shouted for 0", x.number(), 0);
        x.add(100, false);
        due.is("noughts up to the highest digit", x.number(), 199);
        x.add(100, true);
        due.is("off likewise", x.number(), 0);
    }

    private static void undone() {
        GoatAbacus x = new GoatAbacus(4);
        x.echo(1, 5, 50);
        long[] numbers = new long[61];
        int[] walks = new int[61];
        for (int i = 1; i <= 60; i++) {
            due.is("add", x.add(11, i % 3 == 0), i);
            numbers[i] = x.number();
            walks[i] = x.told(0);
        }
        due.is("can be undone", x.count(4), 40);
        for (int i = 59; i >= 20; i--) {
            due.is("undo", x.undo(), i);
            due.is("number", x.number(), numbers[i]);
            due.is("walks", x.told(0), walks[i]);
            due.is("can be undone", x.count(4), i - 20);
        }
        due.is("no more", x.undo(), -1);
        due.is("acts", x.told(6), 20);
        for (int i = 21; i <= 60; i++) {
            due.is("again", x.add(11, i % 3 == 0), i);
            due.is("the same draws", x.number(), numbers[i]);
        }
    }

    private static void undoneWhole() {
        GoatAbacus x = new GoatAbacus(2);
        x.goats(0, 3);
        x.act(3);
        due.is("run", Due.sum(x, "a99x2;h;d;z;t45"), 0);
        int[][] want = new int[8][6];
        for (int i = 1; i <= 7; i++) {
            for (int what = 0; what < 6; what++) {
                want[i][what] = x.told(what);
            }
            switch (i) {
                case 1: case 2: x.add(99, false); break;
                case 3: x.act(3); break;
                case 4: x.act(2); break;
                case 5: x.act(4); break;
                case 6: x.add(45, true); break;
                default: break;
            }
        }
        long end = x.number();
        for (int i = 6; i >= 1; i--) {
            due.is("undo", x.undo(), i);
            told(x, "undone to " + i, want[i]);
        }
        due.is("run", x.run(0), 7);
        due.is("as one by one", x.number(), end);
        due.is("each is an act", x.count(4), 7);
        due.is("no such sum", x.run(1), -1);
        due.is("no such sum", x.run(-1), -1);
        told(x, "run", want[7]);
    }

    private static void images() {
        GoatAbacus x = new GoatAbacus(3);
        x.add(123, false);
        due.is("image", x.image(), 1);
        due.is("image leaves what can be undone", x.count(4), 1);
        x.add(400, false);
        x.goats(0, 12);
        x.two(1, true);
        x.fog(2, true);
        x.harvest(5);
        x.echo(3, 4, 100);
        x.set(1, 4);
        due.is("back", x.back(), 1);
        due.is("number", x.number(), 123);
        due.is("goats", x.rope(0, 1), 9);
        due.is("two", x.rope(1, 2), 2);
        due.is("fog", x.rope(2, 2), 1);
        due.is("nothing can be undone", x.count(4), 0);
        due.is("undo", x.undo(), -1);
        due.is("harvest stays", x.count(3), 1);
        told(x, "image", 6, 0, 6, 0, 0, 0, 1);
        x.add(3, false);
        due.is("echo stays", x.number(), 127);
        told(x, "pace stays", 10, 0, 22);
        due.is("undo behind back", x.undo(), 1);
        x.act(4);
        due.is("image anew", x.image(), 2);
        x.add(1, false);
        x.fog(0, true);
        due.is("back to the new one", x.back(), 2);
        due.is("empty", x.number(), 0);
        due.is("no fog", x.rope(0, 2), 0);
        x.two(0, true);
        x.fog(1, true);
        x.goats(2, 3);
        x.wind(77);
        x.image();
        x.two(0, false);
        x.fog(1, false);
        x.goats(2, 5);
        x.back();
        x.add(1, false);
        due.is("two again", x.rope(0, 2), 2);
        due.is("fog again", x.rope(1, 2), -2);
        due.is("goats again", x.rope(2, 1), 3);
    }

    private static void imageDraws() {
        GoatAbacus x = new GoatAbacus(6);
        x.echo(5, 1, 50);
        x.wind(99);
        x.image();
        x.add(555555, false);
        long first = x.number();
        x.back();
        x.add(555555, false);
        due.is("the same draws behind back", x.number(), first);
        x.undo();
        x.add(555555, false);
        due.is("the same draws behind undo", x.number(), first);
    }

    private static void seen() {
        GoatAbacus x = new GoatAbacus(2);
        due.is("two", x.two(0, true), true);
        due.is("two", x.two(2, true), false);
        due.is("two", x.two(-1, true), false);
        due.is("0 is seen as 0", x.rope(0, 2), 0);
        x.add(9, false);
        due.is("9 is seen as 10", x.rope(0, 2), 10);
        due.is("digit", x.rope(0, 0), 9);
        due.is("number", x.number(), 9);
        x.two(0, false);
        due.is("9 is 9", x.rope(0, 2), 9);
    }

    public static void main(String[] args) {
        fresh();
        settings();
        orders();
        overs();
        shorts();
        doubles();
        echoes();
        zeroIsHeardToo();
        undone();
        undoneWhole();
        images();
        imageDraws();
        seen();
        due.close();
    }
}
