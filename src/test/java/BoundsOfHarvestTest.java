/** Boundary cases of promises 25 to 28, 37, 39 and 44: the HARVEST. */
public final class BoundsOfHarvestTest {
    private static final Due due = new Due("BoundsOfHarvestTest");
    private static final int LEAST = Integer.MIN_VALUE;
    private static final int MOST = Integer.MAX_VALUE;
    private static final int[] NO_NUMBERS = {LEAST, -1, 1000000000, MOST};

    private static GoatAbacus with(int ropes, int... numbers) {
        GoatAbacus x = new GoatAbacus(ropes);
        for (int i = 0; i < numbers.length; i++) {
            due.is("harvest " + numbers[i], x.harvest(numbers[i]), i + 1);
        }
        return x;
    }

    /** Promise 25: "NONE: out of bounds, there are eight."; "(8 at most; 0 .. 999,999,999)". */
    private static void howMany() {
        for (int number : NO_NUMBERS) {
            Refused.everywhere(due, "harvest(" + number + ")", x -> x.harvest(number), -1);
        }
        GoatAbacus x = with(12, 0, 999999999, 1, 2, 3, 4, 5);
        due.is("seven", x.count(3), 7);
        due.is("out of bounds", x.harvest(-1), -1);
        due.is("out of bounds", x.harvest(1000000000), -1);
        due.is("seven still", x.count(3), 7);
        due.is("the eighth", x.harvest(6), 8);
        due.is("a ninth", x.harvest(0), -1);
        due.is("a ninth, out of bounds", x.harvest(-1), -1);
        due.is("eight still", x.count(3), 8);
        // 0; nines; round and a carry; 2; 5; 9; 4 and a carry; 0 and a carry.
        due.is("the walks of eight", x.fewest(-1), 81 + 82 + 2 + 3 + 4 + 6 + 5);
        Refused.by(due, "a ninth", 6, Refused::full, y -> y.harvest(5), -1);
    }

    /** Promise 26: "HIDDEN: no HARVEST, no such what."; "which comes k-th (1 and k); AS TOLD (NONE)". */
    private static void fewest() {
        for (int what : new int[] {LEAST, -3, -2, 9, 10, MOST}) {
            Refused.everywhere(due, "fewest(" + what + ")", x -> x.fewest(what), -2);
        }
        for (int what = -1; what <= 8; what++) {
            int w = what;
            Refused.by(due, "no harvest, fewest(" + w + ")", 3, x -> x.add(5, false), x -> x.fewest(w), -2);
        }
        int[] numbers = {999999999, 1, 0, 0, 0, 0, 0, 0};
        GoatAbacus x = new GoatAbacus(12);
        for (int size = 1; size <= 8; size++) {
            x.harvest(numbers[size - 1]);
            due.is("the last of " + size, x.fewest(size) >= 0, true);
            due.is("behind the last of " + size, x.fewest(size + 1), -2);
            due.is("below NONE", x.fewest(-2), -2);
            due.is("as told", x.fewest(-1), size == 1 ? 81 : 163);
            // 1, then the nines: on each rope 1 to 0, and a carry that makes the next one 1.
            due.is("the fewest", x.fewest(0), size == 1 ? 81 : 1 + 9 * 2);
        }
        GoatAbacus one = with(2, 7);
        due.is("one: walks", one.fewest(0), 7);
        due.is("one: the first", one.fewest(1), 0);
        due.is("one: as told", one.fewest(-1), 7);
        GoatAbacus eight = with(2, 9, 9, 9, 9, 9, 9, 9, 1);
        // 9, six times 2 and 1; or 1, 2, 9 and five times 2: as many, so the first by their places.
        due.is("eight: as many", eight.fewest(0), 9 + 6 * 2 + 1);
        due.is("eight: as told", eight.fewest(-1), 9 + 6 * 2 + 1);
        for (int k = 0; k < 8; k++) {
            due.is("by their places", eight.fewest(1 + k), k);
        }
        // 9 and 1: 19; 1 and 9: 3. The last comes ahead of the first, and all others ahead of both.
        GoatAbacus last = with(2, 9, 0, 0, 0, 0, 0, 0, 1);
        due.is("as told", last.fewest(-1), 19);
        due.is("the fewest", last.fewest(0), 3);
        for (int k = 0; k < 8; k++) {
            due.is("the last ahead of the first", last.fewest(1 + k), (k + 1) % 8);
        }
        GoatAbacus nought = with(2, 0, 0);
        due.is("nothing at all", nought.fewest(0), 0);
        due.is("the first", nought.fewest(1), 0);
        due.is("the second", nought.fewest(2), 1);
        GoatAbacus orders = with(3, 95, 55);
        orders.set(0, 1);
        orders.goats(0, 2);
        orders.cheaper(5);
        // By ORDER 0, whatever is set: 14 and 20; the other way round 10 and 8.
        due.is("as told, by ORDER 0", orders.fewest(-1), 34);
        due.is("the fewest, by ORDER 0", orders.fewest(0), 18);
        due.is("the second is first", orders.fewest(1), 1);
        GoatAbacus lost = with(2, 100, 999999900);
        due.is("all lost", lost.fewest(0), 0);
    }

    /** Promise 27: "NONE: i below NONE; else HIDDEN: there is FOG; else NONE: no such one." */
    private static void added() {
        for (int i : new int[] {LEAST, -3, -2}) {
            Refused.everywhere(due, "added(" + i + ")", x -> x.added(i), -1);
        }
        Refused.by(due, "added(256)", 6, Refused::some, x -> x.added(256), -1);
        Refused.by(due, "added(most)", 6, Refused::some, x -> x.added(MOST), -1);
        Refused.by(due, "added in fog", 6, Refused::full, x -> x.added(MOST), -2);
        Refused.by(due, "near in fog", 6, Refused::full, GoatAbacus::near, -2);
        GoatAbacus x = new GoatAbacus(2);
        due.is("no harvest: the empty set is 0", x.added(-1), 1);
        due.is("no harvest: the empty set is 0", x.added(0), 0);
        due.is("no other", x.added(1), -1);
        x.add(1, false);
        due.is("no harvest: 1 is none", x.added(-1), 0);
        due.is("no harvest: 1 is none", x.added(0), -1);
        GoatAbacus noughts = with(2, 0, 0, 0, 0, 0, 0, 0, 0);
        due.is("all sets of eight", noughts.added(-1), 256);
        due.is("the first", noughts.added(0), 0);
        due.is("the last", noughts.added(255), 255);
        due.is("behind it", noughts.added(256), -1);
        noughts.fog(1, true);
        due.is("fog: how many", noughts.added(-1), -2);
        due.is("fog: no such one", noughts.added(256), -2);
        due.is("fog: below NONE", noughts.added(-2), -1);
        GoatAbacus great = with(12, 999999999, 999999999, 999999999, 999999999, 999999999, 999999999, 999999999, 999999999);
        for (int i = 0; i < 8; i++) {
            great.add(999999999, false);
        }
        due.is("more than 32 bits", great.number(), 7999999992L);
        due.is("all eight", great.added(-1), 1);
        due.is("all eight", great.added(0), 255);
        great.add(999999999, true);
        due.is("seven of eight", great.added(-1), 8);
        due.is("all but the last", great.added(0), 127);
        due.is("all but the first", great.added(7), 254);
        GoatAbacus seen = with(2, 100, 10);
        seen.two(1, true);
        seen.add(90, false);
        due.is("10 tens are seen", seen.added(0), 1);
    }

    /** Promise 28: "by one ROPE's DIGIT being 1 more or less (0 .. 9 within)". */
    private static void near() {
        GoatAbacus x = with(2, 1, 10, 100);
        // 0: by 1 and by 10; 100 is beyond the ropes.
        due.is("0, two more", x.near(), 2);
        x.add(99, false);
        // 98, 89: none; 100 and 109: not within.
        due.is("9 can't be more", x.near(), 0);
        x.act(4);
        x.add(10, false);
        // 0 and 20 by the tens, 11 by the ones; 9 can't be.
        due.is("10", x.near(), 2);
        x.act(4);
        x.add(1, false);
        // 0 by the ones; 2 none; 11 by the tens.
        due.is("1", x.near(), 2);
        GoatAbacus up = with(2, 9);
        up.add(8, false);
        due.is("8 can be more", up.near(), 1);
        GoatAbacus down = with(2, 8);
        down.add(9, false);
        due.is("9 can be less", down.near(), 1);
        GoatAbacus across = with(2, 9);
        across.add(10, false);
        // 0 by the tens; 9 is one less, but not by the ones, which are 0.
        due.is("0 can't be less", across.near(), 1);
        GoatAbacus two = with(2, 9, 2);
        two.two(0, true);
        two.add(9, false);
        // 10 is seen: one less is 9; one more, 11, is not within.
        due.is("10 ones are seen", two.near(), 1);
        due.is("no harvest", new GoatAbacus(2).near(), 0);
        GoatAbacus one = new GoatAbacus(2);
        one.add(1, false);
        due.is("no harvest: the empty set is one less", one.near(), 1);
        GoatAbacus last = with(12, 0);
        last.add(1, true);
        last.add(999999999, true);
        last.act(4);
        due.is("0 can't be less: the empty set and 0 alone are 0 themselves", last.near(), 0);
        GoatAbacus high = with(2, 10, 0);
        due.is("one ten more, with 0 or without", high.near(), 2);
    }

    /** Promise 37: "NONE: none can be, no HARVEST, out of bounds."; "(of several the first)". */
    private static void guesses() {
        for (int number : NO_NUMBERS) {
            Refused.everywhere(due, "guess(" + number + ")", x -> x.guess(number), -1);
        }
        Refused.by(due, "no harvest", 6, x -> x.echo(1, 2, 50), x -> x.guess(1), -1);
        Refused.by(due, "none can be", 6, Refused::some, x -> x.guess(6), -1);
        GoatAbacus x = with(2, 0, 999999999, 999999999);
        due.is("the least", x.guess(0), 0);
        due.is("the most, of several the first", x.guess(999999999), 1);
        due.is("none", x.guess(1), -1);
        due.is("out of bounds", x.guess(1000000000), -1);
        // One hundredth for each of nine digits: as little as there is, but it can be.
        GoatAbacus y = with(2, 111111111, 222222222);
        y.echo(1, 3, 1);
        due.is("a part of 10 to the 18", y.guess(333333333), 0);
        y.echo(2, 3, 2);
        due.is("512 parts", y.guess(333333333), 1);
        y.echo(1, 3, 2);
        due.is("as many: the first", y.guess(333333333), 0);
        y.echo(1, 3, 0);
        due.is("the other alone", y.guess(333333333), 1);
        y.echo(2, 3, 0);
        due.is("none can be", y.guess(333333333), -1);
        // "fewer digits count as 100 for each that lacks": 1 by 50, 11 by 25.
        GoatAbacus z = with(2, 11, 1);
        z.echo(1, 0, 50);
        due.is("0 of fewer digits", z.guess(0), 1);
        due.is("1 of fewer digits", z.guess(1), 1);
        due.is("as many digits", z.guess(10), 0);
    }

    /** Promise 39: "pairs (each once) of which one can be HEARD as the other one, or the other way round". */
    private static void confused() {
        due.is("no harvest", new GoatAbacus(2).confused(), 0);
        due.is("one", with(2, 5).confused(), 0);
        due.is("two others", with(2, 5, 6).confused(), 0);
        due.is("eight alike", with(2, 7, 7, 7, 7, 7, 7, 7, 7).confused(), 28);
        GoatAbacus x = with(2, 12, 13);
        x.echo(2, 3, 1);
        due.is("one way", x.confused(), 1);
        x.echo(3, 2, 1);
        due.is("both ways, once", x.confused(), 1);
        x.echo(2, 3, 0);
        due.is("the other way", x.confused(), 1);
        x.echo(3, 2, 0);
        due.is("neither", x.confused(), 0);
        GoatAbacus y = with(2, 111111111, 222222222);
        y.echo(1, 2, 1);
        due.is("a part of 10 to the 18", y.confused(), 1);
        GoatAbacus z = with(2, 222222222, 111111111);
        z.echo(1, 2, 1);
        due.is("a part of 10 to the 18, the other way", z.confused(), 1);
    }

    /** Promise 44: "ODDS of the k-th (0 ..). NONE: no such one. HIDDEN: there is FOG."; "(0, if none can be)". */
    private static void odds() {
        for (int k : new int[] {LEAST, -2, -1, 8, 9, MOST}) {
            Refused.everywhere(due, "odds(" + k + ")", x -> x.odds(k), -1);
        }
        Refused.by(due, "no harvest", 6, x -> x.add(5, false), x -> x.odds(0), -1);
        Refused.by(due, "odds(3) of three", 6, Refused::some, x -> x.odds(3), -1);
        Refused.by(due, "odds in fog", 6, Refused::full, x -> x.odds(7), -2);
        GoatAbacus x = with(2, 0, 5);
        due.is("the first", x.odds(0), 1000000);
        due.is("the last", x.odds(1), 0);
        due.is("behind the last", x.odds(2), -1);
        x.add(6, false);
        due.is("none can be", x.odds(0), 0);
        due.is("none can be", x.odds(1), 0);
        x.fog(0, true);
        due.is("fog: the last", x.odds(1), -2);
        due.is("fog: behind the last", x.odds(2), -1);
        due.is("fog: below 0", x.odds(-1), -1);
        GoatAbacus y = with(9, 111111111, 222222222);
        y.echo(1, 3, 1);
        y.echo(2, 3, 3);
        y.add(333, false);
        due.is("nine digits can't be three", y.odds(0), 0);
        y.act(4);
        y.add(333333333, false);
        // 1 to 19683: 50.8 parts.
        due.is("cut", y.odds(0), 50);
        due.is("cut", y.odds(1), 999949);
        y.echo(2, 3, 0);
        due.is("as little as can be is sure", y.odds(0), 1000000);
        y.harvest(5);
        due.is("fewer digits than seen can't be", y.odds(2), 0);
        due.is("as sure as ahead of that", y.odds(0), 1000000);
        GoatAbacus z = with(12, 999999999);
        z.add(999999999, false);
        due.is("nine digits are seen", z.odds(0), 1000000);
        z.two(8, true);
        due.is("ten are", z.odds(0), 0);
        z.act(4);
        z.add(1, true);
        due.is("twelve are", z.odds(0), 0);
        for (int rope = 0; rope < 12; rope++) {
            z.two(rope, true);
        }
        due.is("thirteen are", z.odds(0), 0);
        due.is("no set is so much", z.added(-1), 0);
        due.is("nor near it", z.near(), 0);
        due.is("so much is seen", z.span(1, 0, 2), 1111111111110L);
        GoatAbacus eight = with(9, 7, 7, 7, 7, 7, 7, 7, 7);
        eight.add(7, false);
        due.is("an eighth each", eight.odds(7), 125000);
    }

    public static void main(String[] args) {
        howMany();
        fewest();
        added();
        near();
        guesses();
        confused();
        odds();
        due.close();
    }
}
