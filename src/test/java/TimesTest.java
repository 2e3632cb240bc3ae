/** Promises 18, 35, 42 and 43: when each rope is done, how it stands, relays. */
public final class TimesTest {
    private static final Due due = new Due("TimesTest");

    private static void done(GoatAbacus x, int number, int... want) {
        int last = 0;
        for (int rope = 0; rope < want.length; rope++) {
            due.is("done(" + number + ", " + rope + ")", x.done(number, rope), want[rope]);
            last = Math.max(last, want[rope]);
        }
        due.is("done(" + number + ", NONE)", x.done(number, -1), last);
    }

    private static void standing(GoatAbacus x, int number, int rope, int from, int... want) {
        for (int i = 0; i < want.length; i++) {
            due.is("standing(" + number + ", " + rope + ", " + (from + i) + ")",
                    x.standing(number, rope, from + i), want[i]);
        }
    }

    private static void carriesInARow() {
        GoatAbacus x = new GoatAbacus(4);
        x.add(95, false);
        done(x, 7, 3, 14, 17, 0);
        standing(x, 7, 0, 0, 4, 3, 2, 2);
        standing(x, 7, 1, 3, 9, 9, 8, 7, 6, 5, 4, 3, 2, 1, 0, 0);
        standing(x, 7, 2, 14, 0, 0, 1, 1);
        standing(x, 7, 3, 0, 0);
        standing(x, 7, 2, 9999, 1);
        due.is("relay", x.relay(7, 1, 0), 17);
        due.is("nothing has changed", x.number(), 95);
        x.set(1, 2);
        done(x, 7, 6, 26, 30, 0);
        standing(x, 7, 0, 0, 5, 4, 4, 3, 3, 2, 2);
        standing(x, 7, 1, 7, 9, 9, 8, 8, 7);
        x.set(1, 1);
        x.set(2, 0);
        done(x, 7, 3, 12, 13, 0);
        standing(x, 7, 1, 2, 9, 8);
        due.is("relay, dog 0", x.relay(7, 1, 0), 15);
    }

    private static void busyOrNot() {
        GoatAbacus x = new GoatAbacus(4);
        x.add(9, false);
        x.goats(1, 12);
        // Rope 0 ends in 9, rope 1 in 10: the carry comes in 11: 9 to 0 till 20, the next one in 22.
        done(x, 91, 9, 20, 23, 0);
        x.act(4);
        x.add(8, false);
        x.goats(0, 8);
        // Rope 0: 8 and 9 is 7, one walk; the carry comes in minute 3, rope 1 is busy till 10: 9 to 0, then rope 2.
        done(x, 99, 1, 19, 22, 0);
        standing(x, 99, 1, 0, 0, 1, 2, 3, 4, 5, 6, 7, 8, 9, 8, 7, 6, 5, 4, 3, 2, 1, 0, 0);
        due.is("relay", x.relay(99, 1, 1), 22);
    }

    private static void carryAheadOfTheShout() {
        GoatAbacus x = new GoatAbacus(3);
        x.set(2, 0);
        x.set(3, 9);
        x.add(5, false);
        done(x, 15, 5, 10, 0);
        standing(x, 15, 1, 4, 0, 1, 1, 1, 1, 2, 2);
        due.is("relay", x.relay(15, 3, 0), 10);
        x.set(3, 5);
        // The carry comes in the minute of the shout: the digit is first.
        done(x, 15, 5, 7, 0);
        x.act(4);
        x.add(99, false);
        x.set(1, 2);
        x.set(3, 9);
        x.set(2, 1);
        // Rope 0: 9 to 0 in 0 .. 18; the carry comes in 19, rope 1 is at its own from 9 on: 9 to 1 in 9 .. 25, 2 in 27.
        done(x, 21, 18, 27, 28);
        x.act(4);
        x.add(95, false);
        // Rope 0: 5 to 1 till 8; the carry comes in 9 as the shout does: 9 to 1 till 25, 2 till 27; rope 2 from 26.
        done(x, 26, 8, 27, 28);
        x.set(2, 0);
        // The carry comes in 8: 9 to 0 till 26; the shout of minute 9 waits for that: 2 till 30; rope 2 from 26.
        done(x, 26, 8, 30, 28);
        standing(x, 26, 1, 8, 9, 8);
        standing(x, 26, 1, 25, 0, 0, 1, 1, 2);
    }

    private static void nothingToDo() {
        GoatAbacus x = new GoatAbacus(4);
        done(x, 0, 0, 0, 0, 0);
        // A digit of 0 below the highest is heard, too.
        done(x, 105, 5, 1, 3, 0);
        due.is("relay of nothing", x.relay(0, 1, 0), 0);
        x.set(3, 9);
        done(x, 100, 0, 9, 19, 0);
        due.is("relay waits for the shout", x.relay(100, 1, 0), 19);
        due.is("higher digits are lost", x.done(30000, -1), 0);
        due.is("and not waited for", x.relay(30002, 1, 0), 2);
        x.add(5, false);
        // The carry comes in 7 and is driven till 8; the 0 of minute 9 is heard behind that.
        done(x, 105, 5, 9, 19, 0);
        x.act(4);
        x.add(9999, false);
        done(x, 1, 9, 20, 31, 42);
        due.is("the last carry is away till it is lost", x.relay(1, 1, 0), 44);
    }

    private static void ranks() {
        GoatAbacus x = new GoatAbacus(4);
        x.set(2, 5);
        x.set(3, 0);
        x.add(999, false);
        due.is("low first", x.relay(101, 1, 0), 29);
        due.is("high first", x.relay(101, 1, 1), 34);
        due.is("ranked", x.ranked(101, 1), 0);
        due.is("two dogs", x.relay(101, 2, 1), 29);
        due.is("ranked, as soon", x.ranked(101, 2), 0);
        GoatAbacus y = new GoatAbacus(5);
        y.set(2, 5);
        y.set(3, 0);
        y.add(9909, false);
        due.is("low first", y.relay(101, 1, 0), 34);
        due.is("high first", y.relay(101, 1, 1), 29);
        due.is("ranked", y.ranked(101, 1), 1);
        due.is("ranked, dogs enough", y.ranked(101, 9), 0);
        y.goats(1, 0);
        // No goat on rope 1: 0 and 1 should be 1, no walk, at rest when the carry comes.
        due.is("no goats", y.relay(1, 1, 0), 14);
    }

    private static void refused() {
        GoatAbacus x = new GoatAbacus(3);
        x.add(999, false);
        due.is("done", x.done(-1, 0), -1);
        due.is("done", x.done(1000000000, 0), -1);
        due.is("done", x.done(1, 3), -1);
        due.is("done", x.done(1, -2), -1);
        due.is("standing", x.standing(-1, 0, 0), -1);
        due.is("standing", x.standing(1000000000, 0, 0), -1);
        due.is("standing", x.standing(1, -1, 0), -1);
        due.is("standing", x.standing(1, 3, 0), -1);
        due.is("standing", x.standing(1, 0, -1), -1);
        due.is("standing", x.standing(1, 0, 10000), -1);
        due.is("standing", x.standing(999999999, 2, 9999), 9);
        due.is("relay", x.relay(-1, 1, 0), -1);
        due.is("relay", x.relay(1000000000, 1, 0), -1);
        due.is("relay", x.relay(1, 0, 0), -1);
        due.is("relay", x.relay(1, 10, 0), -1);
        due.is("relay", x.relay(1, 1, 2), -1);
        due.is("relay", x.relay(1, 1, -1), -1);
        due.is("relay", x.relay(1, 9, 1) > 0, true);
        due.is("ranked", x.ranked(-1, 1), -1);
        due.is("ranked", x.ranked(1000000000, 1), -1);
        due.is("ranked", x.ranked(1, 0), -1);
        due.is("ranked", x.ranked(1, 10), -1);
        due.is("nothing has changed", x.told(0), 27);
    }

    public static void main(String[] args) {
        carriesInARow();
        busyOrNot();
        carryAheadOfTheShout();
        nothingToDo();
        ranks();
        refused();
        due.close();
    }
}
