/** Boundary cases of promises 21 to 24, 36 and 38: BELL, MISS, SPAN, ASTRAY, AS, SAFEST. */
public final class BoundsOfBellsTest {
    private static final Due due = new Due("BoundsOfBellsTest");
    private static final int LEAST = Integer.MIN_VALUE;
    private static final int MOST = Integer.MAX_VALUE;
    private static final int[] NO_NUMBERS = {LEAST, -1, 1000000000, MOST};

    /** Promise 21: "NONE: no such m. HIDDEN: there is FOG."; "BELL of m (2 .. 99)". */
    private static void bells() {
        for (int m : new int[] {LEAST, -99, -2, -1, 0, 1, 100, 101, MOST}) {
            // Among the ways that are gone one has fog: no such m comes first.
            Refused.everywhere(due, "bell(" + m + ")", x -> x.bell(m), -1);
        }
        GoatAbacus x = new GoatAbacus(12);
        due.is("bell(2) of nothing", x.bell(2), 0);
        x.add(1, true);
        for (int m = 2; m <= 99; m++) {
            due.is("nines by " + m, x.bell(m), 999999999999L % m);
        }
        for (int rope = 0; rope < 12; rope++) {
            x.two(rope, true);
        }
        for (int m = 2; m <= 99; m++) {
            due.is("tens by " + m, x.bell(m), 1111111111110L % m);
        }
        for (int rope = 0; rope < 12; rope++) {
            x.fog(rope, true);
            due.is("one rope in fog, bell(2)", x.bell(2), -2);
            due.is("one rope in fog, bell(99)", x.bell(99), -2);
            due.is("one rope in fog, bell(100)", x.bell(100), -1);
            x.fog(rope, false);
            due.is("no fog", x.bell(99) >= 0, true);
        }
    }

    /** Promise 22: "MISS by m; WRONG (m NONE). NONE: no such ones." */
    private static void noSuchMiss() {
        for (int number : NO_NUMBERS) {
            Refused.everywhere(due, "miss(" + number + ", 2)", x -> x.miss(number, 2), -1);
            Refused.everywhere(due, "wrong of " + number, x -> x.miss(number, -1), -1);
            Refused.everywhere(due, "safest of " + number, x -> x.safest(number, 5), -1);
            Refused.everywhere(due, "as(" + number + ", 1)", x -> x.as(number, 1), -1);
            Refused.everywhere(due, "as(1, " + number + ")", x -> x.as(1, number), -1);
        }
        for (int m : new int[] {LEAST, -2, 0, 1, 100, 101, MOST}) {
            Refused.everywhere(due, "miss(1, " + m + ")", x -> x.miss(1, m), -1);
        }
        for (int p : new int[] {LEAST, -2, -1, 0, 1, 100, 101, MOST}) {
            Refused.everywhere(due, "safest(1, " + p + ")", x -> x.safest(1, p), -1);
        }
        GoatAbacus x = new GoatAbacus(2);
        x.echo(9, 7, 50);
        due.is("miss by 2", x.miss(9, 2), 500000);
        due.is("miss by 99", x.miss(9, 99), 0);
        due.is("wrong", x.miss(9, -1), 500000);
        due.is("of 0", x.miss(0, 2), 0);
        due.is("wrong of 0", x.miss(0, -1), 0);
        due.is("the most is all but 1 of 512", x.miss(999999999, -1), 998046);
        due.is("the most by 2", x.miss(999999999, 2), 998046);
        due.is("as the least", x.as(0, 0), 1000000);
        due.is("as the most", x.as(999999999, 999999999), 1953);
        due.is("as the most", x.as(999999999, 777777777), 1953);
        due.is("fewer digits than said", x.as(1, 999999999), 0);
    }

    /** "in parts of 10 to the 6, cut". */
    private static void cut() {
        GoatAbacus x = new GoatAbacus(2);
        x.echo(1, 2, 1);
        due.is("one part", x.as(111, 222), 1);
        due.is("a hundredth of one", x.as(1111, 2222), 0);
        due.is("970299 of 970299", x.as(111, 111), 970299);
        due.is("960596.01", x.as(1111, 1111), 960596);
        due.is("39403.99", x.miss(1111, -1), 39403);
        due.is("29701", x.miss(111, -1), 29701);
        due.is("86482.75", x.miss(111111111, -1), 86482);
        x.echo(1, 2, 99);
        due.is("999999 parts", x.miss(111, -1), 999999);
        due.is("not quite sure", x.miss(1111, -1), 999999);
        due.is("a millionth of a millionth of a millionth less", x.miss(111111111, -1), 999999);
        x.echo(1, 2, 100);
        due.is("sure", x.miss(111111111, -1), 1000000);
        due.is("sure", x.as(111111111, 222222222), 1000000);
        // Ten is missed by 9 as 1 and 0 change places: each by one hundredth.
        GoatAbacus y = new GoatAbacus(2);
        y.echo(1, 0, 1);
        y.echo(0, 1, 1);
        due.is("a hundred parts", y.miss(10, 9), 100);
        due.is("with a 0 more", y.miss(100, 9), 198);
        y.echo(3, 4, 1);
        y.echo(4, 3, 1);
        // One 3 up and one 4 down, 4 times 98.01 parts, or all four of them, a hundredth of one.
        due.is("392.05", y.miss(3434, 9), 392);
        due.is("pairs by 99: none", y.miss(3434, 99), 0);
    }

    /** "0 if that has more digits": as many digits, one more, one fewer. */
    private static void moreDigits() {
        GoatAbacus x = new GoatAbacus(2);
        x.echo(1, 0, 50);
        x.echo(0, 1, 50);
        due.is("as many", x.as(10, 11), 250000);
        due.is("one more", x.as(10, 110), 0);
        due.is("one fewer", x.as(10, 1), 250000);
        due.is("none", x.as(10, 0), 250000);
        due.is("0 says nothing", x.as(0, 1), 0);
        due.is("0 is 0", x.as(0, 0), 1000000);
        due.is("nine digits", x.as(100000000, 111111111), 1953);
    }

    /** Promise 38: "to p (2 .. 99): the m of 2 .. p with the least MISS (of several the lowest)". */
    private static void safest() {
        GoatAbacus x = new GoatAbacus(2);
        due.is("none is missed", x.safest(123, 2), 2);
        due.is("none is missed", x.safest(123, 99), 2);
        due.is("of 0", x.safest(0, 99), 2);
        due.is("of the most", x.safest(999999999, 99), 2);
        // 1 is heard as 3, 4, 5, 6, 7, 8, 9: by 2, 3, 4, 5, 6, 7 and 8 apart; less and less.
        for (int other = 3; other <= 9; other++) {
            due.is("echo", x.echo(1, other, 10), true);
        }
        // By 2: 3, 5, 7, 9; by 3: 4, 7; by 4: 5, 9; by 5: 6; by 6: 7; by 9: none.
        int[] best = {0, 0, 2, 3, 3, 5, 5, 5, 5, 9, 9};
        for (int p = 2; p <= 10; p++) {
            due.is("safest to " + p, x.safest(1, p), best[p]);
        }
        due.is("safest to 99", x.safest(1, 99), 9);
        GoatAbacus y = new GoatAbacus(2);
        // 97, 99 and 90 are all heard as 0: missed by what divides them, for sure.
        y.echo(9, 0, 100);
        y.echo(7, 0, 100);
        due.is("97 as 0: by 2", y.miss(97, 2), 0);
        due.is("97 as 0: by 97", y.miss(97, 97), 1000000);
        due.is("97 as 0", y.safest(97, 99), 2);
        due.is("99 as 0: by 99", y.miss(99, 99), 1000000);
        due.is("99 as 0: by 98", y.miss(99, 98), 0);
        due.is("99 as 0, to 2", y.safest(99, 2), 2);
        due.is("90 as 0, to 3", y.safest(90, 3), 2);
        due.is("90 as 0, to 4", y.safest(90, 4), 4);
        GoatAbacus z = new GoatAbacus(2);
        // 4 less on each place: 3 and 6 miss just all three of them, one part; 7 misses none.
        z.echo(9, 5, 1);
        due.is("one part by 3", z.miss(999, 3), 1);
        due.is("one part by 6", z.miss(999, 6), 1);
        due.is("none by 7", z.miss(999, 7), 0);
        due.is("to 6", z.safest(999, 6), 3);
        due.is("to 7", z.safest(999, 7), 7);
        due.is("to 99", z.safest(999, 99), 7);
    }

    /** Promise 23: "NONE: no such ones (m 1 .. 99, r 0 .. m less 1)."; "0 if none", "NONE: none". */
    private static void spans() {
        int[][] none = {{0, 0, 0}, {-1, 0, 0}, {LEAST, 0, 0}, {100, 0, 0}, {MOST, 0, 0}, {1, 1, 0}, {1, -1, 0}, {99, 99, 0},
            {99, -1, 0}, {99, LEAST, 0}, {99, MOST, 0}, {2, 2, 1}, {5, 0, -1}, {5, 0, 3}, {5, 0, LEAST}, {5, 0, MOST}};
        for (int[] n : none) {
            String told = "span(" + n[0] + ", " + n[1] + ", " + n[2] + ")";
            Refused.everywhere(due, told, x -> x.span(n[0], n[1], n[2]), -1);
        }
        GoatAbacus x = new GoatAbacus(2);
        x.add(97, false);
        due.is("m 1", x.span(1, 0, 0), 1);
        due.is("m 99, r 98: none", x.span(99, 98, 0), 0);
        due.is("none: the least", x.span(99, 98, 1), -1);
        due.is("none: the greatest", x.span(99, 98, 2), -1);
        due.is("m 99, r 97", x.span(99, 97, 2), 97);
        due.is("m 99, r 0: none", x.span(99, 0, 0), 0);
        x.fog(1, true);
        due.is("ten", x.span(1, 0, 0), 10);
        due.is("r 0", x.span(99, 0, 0), 0);
        due.is("r 97", x.span(99, 97, 1), 97);
        due.is("r 98", x.span(99, 98, 1), -1);
        due.is("the least", x.span(1, 0, 1), 7);
        due.is("the greatest", x.span(1, 0, 2), 97);
        x.fog(0, true);
        due.is("a hundred", x.span(1, 0, 0), 100);
        due.is("0 and 99", x.span(99, 0, 0), 2);
        due.is("0", x.span(99, 0, 1), 0);
        due.is("99", x.span(99, 0, 2), 99);
        due.is("98 alone", x.span(99, 98, 0), 1);
        due.is("98 alone", x.span(99, 98, 1), 98);
        due.is("98 alone", x.span(99, 98, 2), 98);
        GoatAbacus y = new GoatAbacus(12);
        for (int rope = 0; rope < 7; rope++) {
            y.add((int) (9 * Model.pow(rope)), false);
            y.two(rope, true);
        }
        for (int rope = 7; rope < 12; rope++) {
            y.fog(rope, true);
        }
        due.is("five in fog", y.span(1, 0, 0), 100000);
        due.is("tens that are seen", y.span(1, 0, 1), 11111110);
        due.is("tens that are seen", y.span(1, 0, 2), 999990000000L + 11111110);
        long all = 0;
        for (int r = 0; r < 99; r++) {
            all += y.span(99, r, 0);
            due.is("the least by 99", y.span(99, r, 1) % 99, r);
            due.is("the greatest by 99", y.span(99, r, 2) % 99, r);
        }
        due.is("each has one rest", all, 100000);
    }

    /** Promise 24: "NONE: no such m, r, i below NONE; else HIDDEN: there is FOG; else NONE: no such i." */
    private static void astrays() {
        int[][] none = {{0, 0, 0}, {-1, 0, 0}, {LEAST, 0, 0}, {100, 0, 0}, {MOST, 0, 0}, {1, 1, 0}, {1, -1, 0}, {99, 99, 0},
            {99, -1, 0}, {99, LEAST, 0}, {99, MOST, 0}, {5, 0, -2}, {5, 0, LEAST}, {0, 0, -1}, {5, 5, -1}};
        for (int[] n : none) {
            String told = "astray(" + n[0] + ", " + n[1] + ", " + n[2] + ")";
            Refused.everywhere(due, told, x -> x.astray(n[0], n[1], n[2]), -1);
        }
        GoatAbacus x = new GoatAbacus(2);
        due.is("m 1: all but what is seen", x.astray(1, 0, -1), 18);
        due.is("the first", x.astray(1, 0, 0), 1);
        due.is("the ninth", x.astray(1, 0, 8), 9);
        due.is("the tenth", x.astray(1, 0, 9), 11);
        due.is("the last", x.astray(1, 0, 17), 19);
        due.is("behind the last", x.astray(1, 0, 18), -1);
        due.is("far behind", x.astray(1, 0, MOST), -1);
        due.is("m 99, r 98: none", x.astray(99, 98, -1), 0);
        due.is("m 99, r 98: none", x.astray(99, 98, 0), -1);
        due.is("m 99, r 90", x.astray(99, 90, 0), 19);
        due.is("m 99, r 0: nothing else", x.astray(99, 0, -1), 0);
        x.add(41, false);
        // By 7: 42, 49, and 21, 91.
        int[] sevens = {2, 9, 12, 19};
        for (int i = 0; i < 4; i++) {
            due.is("41 to 0 by 7", x.astray(7, 0, i), sevens[i]);
        }
        due.is("no fifth", x.astray(7, 0, 4), -1);
        x.act(4);
        x.two(0, true);
        x.add(9, false);
        due.is("10 is seen: all ten digits are others", x.astray(1, 0, -1), 19);
        due.is("10 is seen: 9 is another", x.astray(10, 9, 0), 9);
        due.is("10 is seen: 0", x.astray(10, 0, 0), 0);
        x.fog(1, true);
        due.is("fog: how many", x.astray(1, 0, -1), -2);
        due.is("fog: the first", x.astray(1, 0, 0), -2);
        due.is("fog: none such", x.astray(1, 0, MOST), -2);
        due.is("fog: i below NONE", x.astray(1, 0, -2), -1);
        due.is("fog: no such r", x.astray(1, 1, 0), -1);
        due.is("fog: no such m", x.astray(100, 1, 0), -1);
        GoatAbacus y = new GoatAbacus(12);
        due.is("the last rope, the last digit", y.astray(1, 0, 107), 119);
        due.is("behind it", y.astray(1, 0, 108), -1);
    }

    public static void main(String[] args) {
        bells();
        noSuchMiss();
        cut();
        moreDigits();
        safest();
        spans();
        astrays();
        due.close();
    }
}
