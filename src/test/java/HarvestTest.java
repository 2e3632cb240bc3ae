/** Promises 25 to 28, 37, 39 and 44: the HARVEST. */
public final class HarvestTest {
    private static final Due due = new Due("HarvestTest");

    private static GoatAbacus with(int ropes, int... numbers) {
        GoatAbacus x = new GoatAbacus(ropes);
        for (int i = 0; i < numbers.length; i++) {
            due.is("harvest " + numbers[i], x.harvest(numbers[i]), i + 1);
        }
        return x;
    }

    private static void counts() {
        GoatAbacus x = with(3, 0, 999999999, 5, 5, 1, 2, 3);
        due.is("out of bounds", x.harvest(-1), -1);
        due.is("out of bounds", x.harvest(1000000000), -1);
        due.is("eighth", x.harvest(9), 8);
        due.is("ninth", x.harvest(9), -1);
        due.is("count", x.count(3), 8);
    }

    private static void fewest() {
        GoatAbacus none = new GoatAbacus(3);
        due.is("no harvest", none.fewest(0), -2);
        due.is("no harvest", none.fewest(-1), -2);
        // 9, 1: 9 and then 9 to 0 and a carry: 19; 1, 9: 1, 1 to 0, carry: 3. 90 last costs more: 1 to 0.
        GoatAbacus x = with(3, 9, 1);
        due.is("as told", x.fewest(-1), 19);
        due.is("fewest", x.fewest(0), 3);
        due.is("first", x.fewest(1), 1);
        due.is("second", x.fewest(2), 0);
        due.is("no such", x.fewest(3), -2);
        due.is("no such", x.fewest(-2), -2);
        due.is("no act", x.told(6), 0);
        due.is("one more", x.harvest(1), 3);
        // 9 first: 9, 10, 1; 1 first, then 9: 1, 2, 1; 1, 1, 9: 1, 1, 1 (2 to 1) and a carry 1.
        due.is("as told", x.fewest(-1), 9 + 10 + 1);
        due.is("fewest", x.fewest(0), 4);
        due.is("of several the first", x.fewest(1), 1);
        due.is("of several the first", x.fewest(2), 0);
        due.is("of several the first", x.fewest(3), 2);
        GoatAbacus y = with(2, 500, 700, 20);
        due.is("higher digits are lost", y.fewest(0), 2);
        due.is("all alike", y.fewest(1), 0);
        due.is("all alike", y.fewest(2), 1);
        due.is("all alike", y.fewest(3), 2);
        y.goats(1, 0);
        y.set(0, 1);
        y.echo(2, 3, 100);
        y.add(11, false);
        due.is("goats enough, as told, from an empty valley", y.fewest(0), 2);
    }

    private static void added() {
        GoatAbacus x = with(4, 3, 5, 8, 0);
        due.is("0: the empty set, and 0 alone", x.added(-1), 2);
        due.is("empty set", x.added(0), 0);
        due.is("0 alone", x.added(1), 8);
        x.add(8, false);
        due.is("8", x.added(-1), 4);
        int[] want = {3, 4, 11, 12};
        for (int i = 0; i < 4; i++) {
            due.is("the i-th", x.added(i), want[i]);
        }
        due.is("no such one", x.added(4), -1);
        due.is("below NONE", x.added(-2), -1);
        due.is("near 8: 7 none, 9 none, 18 none", x.near(), 0);
        x.two(0, true);
        due.is("9 is seen", x.added(-1), 0);
        // 9 is seen: 1 less is 8 (4 sets).
        due.is("near 9", x.near(), 4);
        x.add(1, false);
        // 10 is seen on rope 0; 9 none; rope 1: 0 seen, 20 none; 10 less on rope 1 can't be.
        due.is("near 10", x.near(), 0);
        x.fog(3, true);
        due.is("fog", x.added(-1), -2);
        due.is("fog", x.added(300), -2);
        due.is("fog, below NONE", x.added(-2), -1);
        due.is("fog", x.near(), -2);
        GoatAbacus y = with(2, 9, 1, 10);
        y.add(10, false);
        // Of 10: 0, 11 and 20; 9 can't be, as the ones can't be 1 less. Sets: 0 by none, 11 by 1 and 10, 20 all.
        due.is("near 10", y.near(), 3);
        due.is("added 10", y.added(-1), 2);
    }

    private static void guesses() {
        GoatAbacus x = new GoatAbacus(2);
        due.is("no harvest", x.guess(1), -1);
        x.harvest(11);
        x.harvest(1);
        x.harvest(111111111);
        due.is("itself", x.guess(1), 1);
        due.is("itself", x.guess(111111111), 2);
        due.is("none can be", x.guess(2), -1);
        x.echo(1, 0, 50);
        // 1: 11 by 25, 1 by 50; 0: 11 by 25, 1 by 50.
        due.is("1", x.guess(1), 1);
        due.is("0", x.guess(0), 1);
        due.is("10", x.guess(10), 0);
        due.is("101", x.guess(101), 2);
        due.is("out of bounds", x.guess(-1), -1);
        due.is("out of bounds", x.guess(1000000000), -1);
        due.is("confused", x.confused(), 3);
        GoatAbacus y = new GoatAbacus(2);
        due.is("no harvest", y.confused(), 0);
        y.harvest(12);
        y.harvest(13);
        y.harvest(12);
        y.harvest(13);
        due.is("of several the first", y.guess(13), 1);
        due.is("alike", y.confused(), 2);
        y.echo(2, 3, 1);
        due.is("one way", y.confused(), 6);
        y.echo(3, 2, 100);
        due.is("never itself", y.guess(13), 0);
        GoatAbacus z = with(2, 111111111, 222222222);
        z.echo(1, 2, 1);
        z.echo(2, 3, 1);
        due.is("one part of 10 to the 18", z.guess(333333333), 1);
        due.is("two ways", z.guess(222222222), 1);
        due.is("as little as can be", z.confused(), 1);
        z.echo(2, 3, 0);
        z.echo(2, 1, 100);
        due.is("one part of 10 to the 18", z.guess(222222222), 0);
    }

    private static void odds() {
        GoatAbacus x = with(3, 12, 13, 2, 412);
        due.is("0 is none of them", x.odds(0), 0);
        x.add(12, false);
        due.is("12 for sure", x.odds(0), 1000000);
        due.is("not 13", x.odds(1), 0);
        x.echo(3, 2, 50);
        due.is("12 or 13", x.odds(0), 666666);
        due.is("12 or 13", x.odds(1), 333333);
        x.echo(4, 0, 10);
        due.is("412 as 012", x.odds(3), 62500);
        due.is("more digits", x.odds(2), 0);
        x.two(0, true);
        due.is("13 is seen", x.odds(1), 1000000);
        due.is("no such one", x.odds(4), -1);
        due.is("no such one", x.odds(-1), -1);
        x.fog(1, true);
        due.is("fog", x.odds(0), -2);
        due.is("fog, no such one", x.odds(4), -1);
        GoatAbacus y = with(9, 7, 7, 7, 7, 7, 7, 7);
        y.add(7, false);
        due.is("a seventh each", y.odds(6), 142857);
        GoatAbacus z = with(12, 999999999, 999999999, 999999999);
        z.add(999999999, false);
        due.is("a third each", z.odds(2), 333333);
        z.two(8, true);
        due.is("ten digits are seen", z.odds(0), 0);
    }

    public static void main(String[] args) {
        counts();
        fewest();
        added();
        guesses();
        odds();
        due.close();
    }
}
