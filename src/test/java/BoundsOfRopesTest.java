/** Boundary cases of promises 1, 7 to 10, 15 to 17, 19, 20, 40 and 48: ropes, goats and what is set. */
public final class BoundsOfRopesTest {
    private static final Due due = new Due("BoundsOfRopesTest");
    private static final int LEAST = Integer.MIN_VALUE;
    private static final int MOST = Integer.MAX_VALUE;

    /** Promise 1: "So many ROPES (the nearest number that may be)"; "2 .. 12". */
    private static void howManyRopes() {
        int[][] told = {{LEAST, 2}, {-1, 2}, {0, 2}, {1, 2}, {2, 2}, {3, 3}, {11, 11}, {12, 12}, {13, 12}, {MOST, 12}};
        for (int[] t : told) {
            GoatAbacus x = new GoatAbacus(t[0]);
            due.is("ropes of " + t[0], x.count(0), t[1]);
            due.is("the last rope is there", x.rope(t[1] - 1, 1), 9);
            due.is("no rope behind it", x.rope(t[1], 1), -1);
            due.is("all digits 0", x.number(), 0);
            x.add(1, true);
            // One less than nothing: a nine on each rope, and the number needs more than 32 bits with 12.
            due.is("nines on all", x.number(), Model.pow(t[1]) - 1);
            due.is("9 on the last", x.rope(t[1] - 1, 0), 9);
        }
    }

    /** "numbered from 0 (the ones)". */
    private static void firstAndLastRope() {
        for (int ropes = 2; ropes <= 12; ropes++) {
            GoatAbacus x = new GoatAbacus(ropes);
            x.add(7, false);
            due.is("the ones", x.rope(0, 0), 7);
            for (int what = 0; what <= 2; what++) {
                due.is("rope(-1)", x.rope(-1, what), -1);
                due.is("the last", x.rope(ropes - 1, what), what == 1 ? 9 : 0);
                due.is("behind the last", x.rope(ropes, what), -1);
                due.is("far below", x.rope(LEAST, what), -1);
                due.is("far above", x.rope(MOST, what), -1);
            }
            due.is("goats(-1)", x.goats(-1, 5), false);
            due.is("goats of the first", x.goats(0, 8), true);
            due.is("goats of the last", x.goats(ropes - 1, 5), true);
            due.is("goats behind the last", x.goats(ropes, 5), false);
            due.is("two(-1)", x.two(-1, true), false);
            due.is("two on the first", x.two(0, true), true);
            due.is("two on the last", x.two(ropes - 1, true), true);
            due.is("two behind the last", x.two(ropes, true), false);
            due.is("fog(-1)", x.fog(-1, true), false);
            due.is("fog on the last", x.fog(ropes - 1, true), true);
            due.is("fog behind the last", x.fog(ropes, true), false);
            due.is("no fog behind the last", x.fog(ropes, false), false);
            due.is("no fog at -1", x.fog(-1, false), false);
            due.is("first seen", x.rope(0, 2), 8);
            due.is("first goats", x.rope(0, 1), 8);
            due.is("last in fog", x.rope(ropes - 1, 2), -2);
            due.is("last goats", x.rope(ropes - 1, 1), 5);
        }
    }

    /** Promise 15: "DIGIT (what 0), GOATS (1), what is SEEN (2 ..). NONE: no such ones." */
    private static void whatOfARope() {
        GoatAbacus x = new GoatAbacus(2);
        x.add(3, false);
        x.two(0, true);
        int[][] want = {{LEAST, -1}, {-1, -1}, {0, 3}, {1, 9}, {2, 4}, {3, -1}, {MOST, -1}};
        for (int[] w : want) {
            due.is("rope(0, " + w[0] + ")", x.rope(0, w[0]), w[1]);
        }
    }

    /** Promise 8: "GOATS of a ROPE (0 .. 12). False: no such one, out of bounds, fewer than its DIGIT." */
    private static void howManyGoats() {
        GoatAbacus x = new GoatAbacus(3);
        due.is("9 at first", x.rope(1, 1), 9);
        due.is("-1", x.goats(1, -1), false);
        due.is("as it was", x.rope(1, 1), 9);
        due.is("0", x.goats(1, 0), true);
        due.is("0 now", x.rope(1, 1), 0);
        due.is("13", x.goats(1, 13), false);
        due.is("still 0", x.rope(1, 1), 0);
        due.is("12", x.goats(1, 12), true);
        due.is("12 now", x.rope(1, 1), 12);
        due.is("least", x.goats(1, LEAST), false);
        due.is("most", x.goats(1, MOST), false);
        due.is("still 12", x.rope(1, 1), 12);
        for (int digit = 0; digit <= 9; digit++) {
            GoatAbacus y = new GoatAbacus(3);
            y.add(10 * digit, false);
            due.is("one fewer than " + digit, y.goats(1, digit - 1), false);
            due.is("as they were", y.rope(1, 1), 9);
            due.is("as many as " + digit, y.goats(1, digit), true);
            due.is("as many now", y.rope(1, 1), digit);
            due.is("other ropes have other digits", y.goats(0, 0), true);
        }
        Refused.isFalse(due, "goats(0, -1)", y -> y.goats(0, -1));
        Refused.isFalse(due, "goats(0, 13)", y -> y.goats(0, 13));
        Refused.isFalse(due, "goats(-1, 5)", y -> y.goats(-1, 12));
        Refused.isFalse(due, "goats(6, 5)", y -> y.goats(6, 12));
        Refused.by(due, "goats, fewer than its digit", 6, y -> y.add(500, false), y -> y.goats(2, 4) ? 1 : 0, 0);
    }

    /** "If a DIGIT should be more than the GOATS of its ROPE, it is as many as these, and SHORT is more by what lacks." */
    private static void tooFewGoats() {
        for (int goats = 0; goats <= 12; goats++) {
            for (int digit = 0; digit <= 9; digit++) {
                GoatAbacus x = new GoatAbacus(2);
                x.goats(0, goats);
                x.add(digit, false);
                due.is(digit + " of " + goats, x.rope(0, 0), Math.min(digit, goats));
                due.is("short", x.told(4), Math.max(0, digit - goats));
                due.is("walks", x.told(0), Math.min(digit, goats));
                // Goats beyond nine never stand at the post: the tenth is a carry.
                x.goats(1, 0);
                x.add(9, false);
                due.is("a carry, or none", x.told(1), Math.min(digit, goats) >= 1 ? 1 : 0);
            }
        }
    }

    /** Promise 7: "ORDER (what 0; 0, 1)". */
    private static void order() {
        GoatAbacus x = new GoatAbacus(3);
        due.is("-1", x.set(0, -1), false);
        due.is("2", x.set(0, 2), false);
        due.is("least", x.set(0, LEAST), false);
        due.is("most", x.set(0, MOST), false);
        x.add(95, false);
        // 95 and 55 by ORDER 0: 20 walks; by ORDER 1: 12.
        x.add(55, false);
        due.is("ORDER 0 still", x.told(0), 14 + 20);
        x.undo();
        due.is("1", x.set(0, 1), true);
        due.is("2", x.set(0, 2), false);
        due.is("-1", x.set(0, -1), false);
        x.add(55, false);
        due.is("ORDER 1 still", x.told(0), 14 + 12);
        x.undo();
        due.is("0", x.set(0, 0), true);
        x.add(55, false);
        due.is("ORDER 0 again", x.told(0), 14 + 20);
    }

    /** "PACE (1 .. 9; 1 at first)". */
    private static void pace() {
        GoatAbacus x = new GoatAbacus(3);
        int[][] rows = {{0, 0, 1}, {10, 0, 1}, {9, 1, 9}, {10, 0, 9}, {0, 0, 9}, {-1, 0, 9}, {1, 1, 1}, {LEAST, 0, 1},
            {MOST, 0, 1}};
        for (int[] r : rows) {
            due.is("set(1, " + r[0] + ")", x.set(1, r[0]), r[1] == 1);
            int ahead = x.told(2);
            x.add(7, false);
            due.is("minutes of 7 walks", x.told(2) - ahead, 7 * r[2]);
            due.is("done", x.done(20, 1), 1 + 2 * r[2]);
            x.undo();
        }
    }

    /** "DOG (0 .. 9; 2)". */
    private static void dog() {
        GoatAbacus x = new GoatAbacus(3);
        x.add(9, false);
        int[][] rows = {{-1, 0, 2}, {10, 0, 2}, {9, 1, 9}, {10, 0, 9}, {-1, 0, 9}, {0, 1, 0}, {-1, 0, 0}, {10, 0, 0},
            {LEAST, 0, 0}, {MOST, 0, 0}};
        for (int[] r : rows) {
            due.is("set(2, " + r[0] + ")", x.set(2, r[0]), r[1] == 1);
            int ahead = x.told(2);
            x.add(1, false);
            due.is("minutes of 10 walks and a carry", x.told(2) - ahead, 10 + r[2]);
            x.undo();
            due.is("done", x.done(1, 1), 9 + r[2] + 1);
        }
    }

    /** "SHOUT (0 .. 9; 1 at first)". */
    private static void shout() {
        GoatAbacus x = new GoatAbacus(3);
        int[][] rows = {{-1, 0, 1}, {10, 0, 1}, {9, 1, 9}, {10, 0, 9}, {-1, 0, 9}, {0, 1, 0}, {-1, 0, 0}, {10, 0, 0},
            {LEAST, 0, 0}, {MOST, 0, 0}};
        for (int[] r : rows) {
            due.is("set(3, " + r[0] + ")", x.set(3, r[0]), r[1] == 1);
            due.is("done", x.done(321, 2), 2 * r[2] + 3);
            due.is("relay", x.relay(321, 1, 0), Math.max(1, Math.max(r[2] + 2, 2 * r[2] + 3)));
        }
    }

    /** Promise 7: "False: no such what, out of bounds." */
    private static void whatIsSet() {
        int[] whats = {LEAST, -1, 4, 5, MOST};
        for (int what : whats) {
            Refused.isFalse(due, "set(" + what + ", 1)", x -> x.set(what, 1));
        }
        int[][] values = {{0, -1}, {0, 2}, {1, 0}, {1, 10}, {2, -1}, {2, 10}, {3, -1}, {3, 10}};
        for (int[] v : values) {
            Refused.isFalse(due, "set(" + v[0] + ", " + v[1] + ")", x -> x.set(v[0], v[1]));
        }
    }

    /** Promise 9: "False: no such ones, alike, out of bounds (all of one together above 100, too)." */
    private static void echoes() {
        int[][] none = {{-1, 1, 5}, {10, 1, 5}, {1, -1, 5}, {1, 10, 5}, {LEAST, 1, 5}, {MOST, 1, 5}, {1, LEAST, 5},
            {1, MOST, 5}, {9, 7, -1}, {9, 7, 101}, {9, 7, LEAST}, {9, 7, MOST}, {11, 11, 0}, {0, 10, 0}, {10, 0, 0}};
        for (int[] n : none) {
            Refused.isFalse(due, "echo " + n[0] + " as " + n[1] + " by " + n[2], x -> x.echo(n[0], n[1], n[2]));
        }
        for (int digit = 0; digit <= 9; digit++) {
            int d = digit;
            Refused.isFalse(due, "alike: " + d, x -> x.echo(d, d, 0));
            Refused.isFalse(due, "alike: " + d, x -> x.echo(d, d, 50));
        }
        GoatAbacus x = new GoatAbacus(2);
        due.is("0 as 9 by 100", x.echo(0, 9, 100), true);
        due.is("9 as 0 by 0", x.echo(9, 0, 0), true);
        due.is("9 as 0 by 100", x.echo(9, 0, 100), true);
        due.is("0 is 9", x.as(10, 19), 1000000);
        due.is("9 is 0", x.as(9, 0), 1000000);
    }

    /** "all of one DIGIT together 100 at most; 0 at first". */
    private static void echoesTogether() {
        GoatAbacus x = new GoatAbacus(2);
        for (int other = 0; other < 8; other++) {
            due.is("none at first", x.as(8, other), 0);
            due.is("by 12", x.echo(8, other, 12), true);
        }
        due.is("96 and 5", x.echo(8, 9, 5), false);
        due.is("nothing heard as 9", x.as(8, 9), 0);
        due.is("96 and 4", x.echo(8, 9, 4), true);
        due.is("never itself", x.as(8, 8), 0);
        due.is("one more for a told one", x.echo(8, 0, 13), false);
        due.is("as it was", x.as(8, 0), 120000);
        due.is("told anew alike", x.echo(8, 0, 12), true);
        due.is("one less", x.echo(8, 0, 11), true);
        due.is("one for itself", x.as(8, 8), 10000);
        due.is("one more for another", x.echo(8, 9, 5), true);
        due.is("two more", x.echo(8, 9, 6), false);
        due.is("another digit has its own 100", x.echo(7, 9, 100), true);
        due.is("all to one", x.echo(7, 8, 1), false);
        due.is("none again", x.echo(7, 9, 0), true);
        due.is("itself again", x.as(7, 7), 1000000);
        due.is("all to another", x.echo(7, 8, 100), true);
        Refused.by(due, "above 100 together", 3, y -> y.echo(1, 2, 60), y -> y.echo(1, 3, 41) ? 1 : 0, 0);
        Refused.by(due, "above 100 told anew", 3, y -> {
            y.echo(1, 2, 60);
            y.echo(1, 3, 40);
        }, y -> y.echo(1, 2, 61) ? 1 : 0, 0);
    }

    private static int drawOf(long seed) {
        return (int) ((seed * 6364136223846793005L + 1442695040888963407L >>> 33) % 100);
    }

    private static long seedFor(int draw) {
        for (long seed = 0; seed < 100000; seed++) {
            if (drawOf(seed) == draw) {
                return seed;
            }
        }
        throw new IllegalStateException("no seed for " + draw);
    }

    /** "the first of DIGITS 0 .. 9 (itself left out) by which, all ECHOES up to it together, that is above the draw". */
    private static void heardByTheDraw() {
        // {digit, as, hundredths ..}; then as what it is heard by a draw.
        int[][] echoes = {{5, 4, 10, 6, 20}, {1, 0, 1, 9, 99}, {9, 0, 100}, {0, 9, 1}, {3, 2, 0, 4, 50}};
        int[][] heard = {
            {0, 4, 9, 4, 10, 6, 29, 6, 30, 5, 99, 5},
            {0, 0, 1, 9, 2, 9, 98, 9, 99, 9},
            {0, 0, 1, 0, 98, 0, 99, 0},
            {0, 9, 1, 0, 99, 0},
            {0, 4, 1, 4, 49, 4, 50, 3, 99, 3}};
        for (int i = 0; i < echoes.length; i++) {
            int[] e = echoes[i];
            for (int j = 0; j < heard[i].length; j += 2) {
                GoatAbacus x = new GoatAbacus(2);
                for (int k = 1; k < e.length; k += 2) {
                    due.is("echo", x.echo(e[0], e[k], e[k + 1]), true);
                }
                x.wind(seedFor(heard[i][j]));
                // Ten to it, so that 0 is shouted, too: ROPE 0 has the first draw.
                x.add(10 + e[0], false);
                due.is(e[0] + " by the draw " + heard[i][j], x.rope(0, 0), heard[i][j + 1]);
            }
        }
    }

    /** Promise 10, "(0 at first) .. (64 bits, going round); (x shifted right by 33, without sign)". */
    private static void seeds() {
        long[] seeds = {0, 1, -1, Long.MIN_VALUE, Long.MAX_VALUE, 1L << 33, 4611686018427387904L, -20261118L};
        for (long seed : seeds) {
            GoatAbacus x = new GoatAbacus(9);
            x.echo(1, 2, 50);
            if (seed != 0) {
                x.wind(seed);
            }
            x.add(111111111, false);
            long state = seed;
            long want = 0;
            for (int rope = 0; rope < 9; rope++) {
                int draw = drawOf(state);
                state = state * 6364136223846793005L + 1442695040888963407L;
                want += (draw < 50 ? 2 : 1) * Model.pow(rope);
            }
            due.is("seed " + seed, x.number(), want);
            x.act(4);
            x.wind(seed);
            x.add(111111111, false);
            due.is("the seed anew", x.number(), want);
        }
    }

    /** Promise 17: "0 WALKS .. 6 ACTS. NONE for others."; promise 48: "0 ROPES .. 4 .. NONE for others." */
    private static void whatIsTold() {
        int[] none = {LEAST, -2, -1, 7, 8, MOST};
        for (int what : none) {
            Refused.everywhere(due, "told(" + what + ")", x -> x.told(what), -1);
            Refused.everywhere(due, "count(" + what + ")", x -> x.count(what), -1);
        }
        Refused.everywhere(due, "count(5)", x -> x.count(5), -1);
        GoatAbacus x = new GoatAbacus(2);
        x.add(99, false);
        x.goats(0, 9);
        x.add(1, false);
        x.act(3);
        int[] told = {36, 2, 40, 1, 0, 0, 3};
        for (int what = 0; what <= 6; what++) {
            due.is("told(" + what + ")", x.told(what), told[what]);
        }
        int[] count = {2, 0, 0, 0, 3};
        for (int what = 0; what <= 4; what++) {
            due.is("count(" + what + ")", x.count(what), count[what]);
        }
    }

    /** "TWO: .. from above, if its DIGIT is above 0, one more is SEEN." */
    private static void twos() {
        for (int digit = 0; digit <= 9; digit++) {
            GoatAbacus x = new GoatAbacus(2);
            x.add(10 * digit, false);
            x.two(1, true);
            due.is(digit + " is seen as", x.rope(1, 2), digit == 0 ? 0 : digit + 1);
            due.is("its digit", x.rope(1, 0), digit);
            due.is("the other rope", x.rope(0, 2), 0);
            x.two(1, true);
            due.is("twice told is once", x.rope(1, 2), digit == 0 ? 0 : digit + 1);
            x.two(1, false);
            due.is("or not", x.rope(1, 2), digit);
        }
        Refused.isFalse(due, "two(-1)", x -> x.two(-1, true));
        Refused.isFalse(due, "two(6)", x -> x.two(6, true));
        Refused.isFalse(due, "two(6), not", x -> x.two(6, false));
        Refused.isFalse(due, "two(32)", x -> x.two(32, true));
        Refused.isFalse(due, "two(-32)", x -> x.two(-32, false));
        Refused.isFalse(due, "two(least)", x -> x.two(LEAST, true));
        Refused.isFalse(due, "two(most)", x -> x.two(MOST, true));
    }

    /** Promise 20: "False: no such one, five others are."; "(5 at most)". */
    private static void fogs() {
        GoatAbacus x = new GoatAbacus(7);
        for (int rope = 2; rope < 7; rope++) {
            due.is("fog on " + rope, x.fog(rope, true), true);
        }
        due.is("five are", x.span(1, 0, 0), 100000);
        due.is("a sixth", x.fog(0, true), false);
        due.is("not in fog", x.rope(0, 2), 0);
        due.is("still five", x.span(1, 0, 0), 100000);
        due.is("one of the five: four others", x.fog(6, true), true);
        due.is("still five", x.span(1, 0, 0), 100000);
        due.is("no fog is no sixth", x.fog(1, false), true);
        due.is("still five", x.span(1, 0, 0), 100000);
        due.is("one less", x.fog(6, false), true);
        due.is("four", x.span(1, 0, 0), 10000);
        due.is("another fifth", x.fog(0, true), true);
        due.is("a sixth again", x.fog(6, true), false);
        due.is("a sixth again", x.fog(1, true), false);
        due.is("seen", x.rope(6, 2), 0);
        due.is("hidden", x.rope(0, 2), -2);
        GoatAbacus two = new GoatAbacus(2);
        due.is("all ropes", two.fog(0, true) && two.fog(1, true), true);
        due.is("all numbers", two.span(1, 0, 2), 99);
        Refused.isFalse(due, "fog(-1)", y -> y.fog(-1, true));
        Refused.isFalse(due, "fog(6)", y -> y.fog(6, true));
        Refused.isFalse(due, "fog(32)", y -> y.fog(32, true));
        Refused.isFalse(due, "fog(33), not", y -> y.fog(33, false));
        Refused.isFalse(due, "fog(least)", y -> y.fog(LEAST, false));
        Refused.isFalse(due, "fog(most)", y -> y.fog(MOST, true));
        Refused.by(due, "a sixth in fog", 6, Refused::full, y -> y.fog(0, true) ? 1 : 0, 0);
    }

    /** Promise 40: "NONE: no such ROPES (bits, not 0), one has 12."; "(bits; none above 12)". */
    private static void kids() {
        int[] none = {LEAST, -1, 0, 64, 65, 127, 128, MOST};
        for (int some : none) {
            Refused.everywhere(due, "kids(" + some + ")", x -> x.kids(some), -1);
        }
        for (int ropes = 2; ropes <= 12; ropes++) {
            GoatAbacus x = new GoatAbacus(ropes);
            due.is("the first alone", x.kids(1), 9 * ropes + 1);
            due.is("all", x.kids((1 << ropes) - 1), 10 * ropes + 1);
            due.is("one that is not there", x.kids(1 << ropes), -1);
            due.is("the last alone", x.kids(1 << ropes - 1), 10 * ropes + 2);
            due.is("all: the first and the last get their 12th", x.kids((1 << ropes) - 1), 11 * ropes + 2);
            due.is("the first has 12", x.kids(1), -1);
            due.is("the last has 12, the others wait", x.kids((1 << ropes) - 2), -1);
            if (ropes > 2) {
                due.is("another has 11 still", x.rope(1, 1), 11);
                due.is("its 12th", x.kids(2), 11 * ropes + 3);
                due.is("12", x.rope(1, 1), 12);
            }
            due.is("not above 12", x.rope(0, 1), 12);
        }
        GoatAbacus none0 = new GoatAbacus(2);
        none0.goats(0, 0);
        none0.goats(1, 0);
        due.is("from no goats", none0.kids(2), 1);
        Refused.by(due, "one has 12", 6, x -> {
            Refused.some(x);
            x.goats(4, 12);
        }, x -> x.kids(63), -1);
        Refused.by(due, "kids, as many as there may be", 6, Refused::full, x -> x.kids(1), -1);
    }

    /** Promise 16: the NUMBER of an empty valley and of nines. */
    private static void numbers() {
        GoatAbacus x = new GoatAbacus(12);
        due.is("empty", x.number(), 0);
        x.add(1, true);
        due.is("nines", x.number(), 999999999999L);
        x.add(999999999, true);
        due.is("nines above", x.number(), 999000000000L);
    }

    public static void main(String[] args) {
        howManyRopes();
        firstAndLastRope();
        whatOfARope();
        howManyGoats();
        tooFewGoats();
        order();
        pace();
        dog();
        shout();
        whatIsSet();
        echoes();
        echoesTogether();
        heardByTheDraw();
        seeds();
        whatIsTold();
        twos();
        fogs();
        kids();
        numbers();
        due.close();
    }
}
