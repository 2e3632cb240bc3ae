/** Boundary cases of promises 18, 34, 35, 42 and 43: when ropes are done, how they stand, relays, cheaper orders. */
public final class BoundsOfTimesTest {
    private static final Due due = new Due("BoundsOfTimesTest");
    private static final int LEAST = Integer.MIN_VALUE;
    private static final int MOST = Integer.MAX_VALUE;
    private static final int[] NO_NUMBERS = {LEAST, -1, 1000000000, MOST};

    private static GoatAbacus with(int ropes, int number, int pace, int dog, int shout) {
        GoatAbacus x = new GoatAbacus(ropes);
        x.add(number, false);
        due.is("pace", x.set(1, pace), true);
        due.is("dog", x.set(2, dog), true);
        due.is("shout", x.set(3, shout), true);
        return x;
    }

    private static void done(GoatAbacus x, int number, int... want) {
        int last = 0;
        for (int rope = 0; rope < want.length; rope++) {
            due.is("done(" + number + ", " + rope + ")", x.done(number, rope), want[rope]);
            last = Math.max(last, want[rope]);
        }
        due.is("done(" + number + ", NONE)", x.done(number, -1), last);
    }

    /** Promise 18: "by all (rope NONE). NONE: no such one, out of bounds." */
    private static void noSuchDone() {
        for (int number : NO_NUMBERS) {
            Refused.everywhere(due, "done(" + number + ", 0)", x -> x.done(number, 0), -1);
            Refused.everywhere(due, "done(" + number + ", NONE)", x -> x.done(number, -1), -1);
        }
        for (int rope : new int[] {LEAST, -2, 6, 7, 12, MOST}) {
            Refused.everywhere(due, "done(5, " + rope + ")", x -> x.done(5, rope), -1);
        }
        for (int ropes = 2; ropes <= 12; ropes++) {
            GoatAbacus x = new GoatAbacus(ropes);
            x.add(1, true);
            due.is("the last rope", x.done(1, ropes - 1), 11 * ropes - 2);
            due.is("all", x.done(1, -1), 11 * ropes - 2);
            due.is("behind the last", x.done(1, ropes), -1);
            due.is("below NONE", x.done(1, -2), -1);
            due.is("nothing is lost by looking", x.told(3), 1);
        }
        GoatAbacus y = new GoatAbacus(9);
        due.is("the most", y.done(999999999, 8), 17);
        due.is("the least", y.done(0, 0), 0);
    }

    /** "(0: it has nothing to do)"; a digit that is heard, or a carry, is something. */
    private static void nothingToDo() {
        GoatAbacus x = new GoatAbacus(4);
        done(x, 0, 0, 0, 0, 0);
        done(x, 1, 1, 0, 0, 0);
        done(x, 100, 0, 1, 3, 0);
        done(x, 1000, 0, 1, 2, 4);
        done(x, 10000, 0, 0, 0, 0);
        done(x, 10001, 1, 0, 0, 0);
        x.add(9, false);
        done(x, 0, 0, 0, 0, 0);
        done(x, 1, 9, 12, 0, 0);
        x.goats(1, 0);
        // The carry finds no goat: no walks, at rest when it comes.
        done(x, 1, 9, 11, 0, 0);
        GoatAbacus y = with(3, 0, 1, 2, 9);
        y.goats(1, 0);
        done(y, 10, 0, 9, 0);
        done(y, 110, 0, 9, 19);
    }

    /** "HEARS its DIGIT in minute SHOUT .. times its turn (0 .. )". */
    private static void heardInTurn() {
        for (int shout = 0; shout <= 9; shout++) {
            for (int pace = 1; pace <= 9; pace += 4) {
                GoatAbacus x = with(9, 0, pace, 9, shout);
                for (int rope = 0; rope < 9; rope++) {
                    due.is("heard in turn", x.done(987654321, rope), shout * rope + (rope + 1) * pace);
                }
            }
        }
        GoatAbacus y = with(9, 0, 1, 2, 3);
        y.set(0, 1);
        due.is("by ORDER 0, whatever ORDER is", y.done(111111111, 8), 25);
    }

    /** "there it waits till that is not busy": it comes ahead of the end, with the end, behind it. */
    private static void carryWaits() {
        GoatAbacus x = with(3, 5, 1, 2, 1);
        // Rope 0: 5 to 0 till 5, the carry comes in 7.
        done(x, 45, 5, 8, 0);
        done(x, 55, 5, 8, 0);
        done(x, 65, 5, 8, 0);
        done(x, 75, 5, 9, 0);
        done(x, 85, 5, 10, 0);
        // 9 till 10, then round: 9 to 0 till 19, and on to rope 2 in 21.
        done(x, 95, 5, 19, 22);
    }

    /** A carry that comes a minute ahead of the shout is first, in the same minute it is second. */
    private static void carryAndShout() {
        GoatAbacus x = with(3, 5, 1, 2, 7);
        // Both in 7: 9 till 16, 9 to 0 till 25, on to rope 2 in 27.
        done(x, 95, 5, 25, 28);
        due.is("relay", x.relay(95, 1, 0), 28);
        x.set(3, 8);
        // The carry in 7: 1 till 8, then 1 and 9: 0 till 9, on to rope 2 in 11.
        done(x, 95, 5, 9, 12);
        due.is("relay", x.relay(95, 1, 0), 12);
        x.set(3, 6);
        done(x, 95, 5, 24, 27);
        due.is("relay", x.relay(95, 1, 0), 27);
        x.set(2, 0);
        x.set(3, 5);
        // With DOG 0 it comes in 5, as the shout does.
        done(x, 95, 5, 23, 24);
        x.set(3, 6);
        done(x, 95, 5, 7, 8);
        GoatAbacus y = with(3, 5, 9, 0, 9);
        // The carry comes in 45.
        done(y, 15, 45, 54, 0);
    }

    /** A carry above the last rope is lost: nobody waits for it. */
    private static void lastCarry() {
        GoatAbacus x = with(2, 99, 1, 9, 1);
        done(x, 1, 9, 27);
        GoatAbacus y = with(2, 90, 1, 9, 1);
        done(y, 10, 0, 10);
        due.is("a dog is away with it, though", y.relay(10, 1, 0), 19);
    }

    /** Promise 35: "(0 .. 9,999)"; "NONE: no such ones." */
    private static void noSuchStanding() {
        for (int number : NO_NUMBERS) {
            Refused.everywhere(due, "standing(" + number + ")", x -> x.standing(number, 0, 0), -1);
        }
        for (int rope : new int[] {LEAST, -2, -1, 6, 7, 12, MOST}) {
            Refused.everywhere(due, "standing(5, " + rope + ")", x -> x.standing(5, rope, 0), -1);
        }
        for (int minute : new int[] {LEAST, -1, 10000, MOST}) {
            Refused.everywhere(due, "standing(5, 0, " + minute + ")", x -> x.standing(5, 0, minute), -1);
        }
        GoatAbacus x = new GoatAbacus(9);
        due.is("minute 0", x.standing(999999999, 0, 0), 1);
        due.is("minute 9,999", x.standing(999999999, 8, 9999), 9);
        due.is("nothing heard yet", x.standing(999999999, 8, 0), 0);
        due.is("number 0", x.standing(0, 8, 9999), 0);
    }

    /** "one goat goes in each PACE minutes .. (at the end of the minute in which it begins, with PACE 1, one goat has gone)". */
    private static void oneByOne() {
        for (int pace = 1; pace <= 9; pace++) {
            GoatAbacus x = with(3, 5, pace, 2, 9);
            // Rope 0: 5 to 8; rope 1: 0 to 2 from minute 9 on.
            for (int minute = 0; minute <= 60; minute++) {
                due.is("rope 0 at " + minute, x.standing(23, 0, minute), 5 + Math.min(3, (minute + 1) / pace));
                int gone = minute < 9 ? 0 : Math.min(2, (minute - 8) / pace);
                due.is("rope 1 at " + minute, x.standing(23, 1, minute), gone);
            }
            // Rope 0: 5 to 1, down; the carry comes behind 4 walks and two minutes.
            int comes = 4 * pace + 2;
            due.is("down, one before the first", x.standing(6, 0, pace - 2 < 0 ? 0 : pace - 2), pace == 1 ? 4 : 5);
            due.is("down, the first", x.standing(6, 0, pace - 1), 4);
            due.is("down, the last but one", x.standing(6, 0, 4 * pace - 2), pace == 1 ? 2 : 2);
            due.is("down, the last", x.standing(6, 0, 4 * pace - 1), 1);
            due.is("at rest", x.standing(6, 0, 4 * pace), 1);
            due.is("the carry, not yet", x.standing(6, 1, comes + pace - 2), 0);
            due.is("the carry", x.standing(6, 1, comes + pace - 1), 1);
        }
    }

    /** Two drives one behind the other: how it stands where the one ends and the other begins. */
    private static void twoDrives() {
        GoatAbacus x = with(3, 5, 1, 2, 1);
        int[] want = {0, 1, 2, 3, 4, 5, 6, 7, 8, 9, 8, 7, 6, 5, 4, 3, 2, 1, 0, 0, 0};
        for (int minute = 0; minute < want.length; minute++) {
            due.is("up and down at " + minute, x.standing(95, 1, minute), want[minute]);
        }
        due.is("on it goes, not yet", x.standing(95, 2, 20), 0);
        due.is("on it goes", x.standing(95, 2, 21), 1);
        x.goats(1, 4);
        // 4 of 9 till 5; the carry in 7: 4 and 1 is 5, but 4.
        due.is("too few", x.standing(95, 1, 4), 4);
        due.is("too few", x.standing(95, 1, 9999), 4);
        due.is("no carry on", x.standing(95, 2, 9999), 0);
    }

    /** Promise 42: "NONE: out of bounds, no such DOGS, RANK."; promise 43: "NONE likewise."; "(1 .. 9)". */
    private static void noSuchRelay() {
        for (int number : NO_NUMBERS) {
            Refused.everywhere(due, "relay(" + number + ")", x -> x.relay(number, 1, 0), -1);
            Refused.everywhere(due, "ranked(" + number + ")", x -> x.ranked(number, 1), -1);
            Refused.everywhere(due, "cheaper(" + number + ")", x -> x.cheaper(number), -1);
        }
        for (int dogs : new int[] {LEAST, -1, 0, 10, 11, MOST}) {
            Refused.everywhere(due, "relay by " + dogs, x -> x.relay(5, dogs, 0), -1);
            Refused.everywhere(due, "ranked by " + dogs, x -> x.ranked(5, dogs), -1);
        }
        for (int rank : new int[] {LEAST, -1, 2, 3, MOST}) {
            Refused.everywhere(due, "relay, rank " + rank, x -> x.relay(5, 1, rank), -1);
        }
        GoatAbacus x = new GoatAbacus(12);
        due.is("nothing", x.relay(0, 1, 0), 0);
        due.is("nothing", x.relay(0, 9, 1), 0);
        due.is("nothing", x.ranked(0, 1), 0);
        due.is("nothing", x.cheaper(0), 0);
        due.is("the most", x.relay(999999999, 9, 1), 17);
        due.is("the most", x.relay(999999999, 1, 0), 17);
        due.is("the most", x.ranked(999999999, 9), 0);
        due.is("the most", x.cheaper(999999999), 0);
    }

    /** "with DOG 0 they come in the next minute"; DOG 1 does not differ from that. */
    private static void nextMinute() {
        int[] want = {11, 11, 12, 13, 14, 15, 16, 17, 18, 19};
        for (int dog = 0; dog <= 9; dog++) {
            GoatAbacus x = with(3, 9, 1, dog, 1);
            due.is("relay, DOG " + dog, x.relay(1, 1, 0), want[dog]);
            due.is("DONE, DOG " + dog, x.done(1, -1), 10 + dog);
        }
    }

    /** As many carries as dogs, one more, one fewer. */
    private static void howManyDogs() {
        GoatAbacus x = with(12, 999999999, 1, 9, 0);
        // Nine carries wait in minute 9; each dog takes 9 minutes a way; the last walk is one from 0 to 1.
        int[] want = {0, 91, 55, 37, 37, 28, 28, 28, 28, 19};
        for (int dogs = 1; dogs <= 9; dogs++) {
            due.is("relay by " + dogs, x.relay(111111111, dogs, 0), want[dogs]);
            due.is("from above by " + dogs, x.relay(111111111, dogs, 1), want[dogs]);
            due.is("as soon by " + dogs, x.ranked(111111111, dogs), 0);
        }
        GoatAbacus y = with(5, 9909, 1, 5, 0);
        // Rope 2's carry goes on by rope 3, which has 9; rope 0's does not.
        due.is("one dog, RANK 0", y.relay(101, 1, 0), 34);
        due.is("one dog, RANK 1", y.relay(101, 1, 1), 29);
        due.is("sooner by RANK 1", y.ranked(101, 1), 1);
        due.is("two dogs are enough", y.relay(101, 2, 0), 29);
        due.is("as soon", y.ranked(101, 2), 0);
        GoatAbacus z = with(4, 999, 1, 5, 0);
        due.is("sooner by RANK 0", z.relay(101, 1, 0) < z.relay(101, 1, 1), true);
        due.is("sooner by RANK 0", z.ranked(101, 1), 0);
    }

    /** "The MINUTE in which all is at rest (all HEARD, nothing busy, waiting, away)". */
    private static void allAtRest() {
        GoatAbacus x = with(3, 0, 1, 2, 9);
        due.is("heard and walked", x.relay(100, 1, 0), 19);
        x.goats(2, 0);
        due.is("heard, no goats", x.relay(100, 1, 0), 18);
        due.is("heard ahead of that", x.relay(19, 1, 0), 10);
        due.is("higher digits are lost", x.relay(1000, 1, 0), 0);
        GoatAbacus y = with(2, 99, 1, 2, 1);
        // Rope 0 till 9, the carry in 11, rope 1 till 20, lost in 22.
        due.is("away with what is lost", y.relay(1, 1, 0), 22);
        for (int ropes = 2; ropes <= 12; ropes++) {
            GoatAbacus nines = new GoatAbacus(ropes);
            nines.add(1, true);
            due.is("nines on " + ropes, nines.relay(1, 1, 0), 11 * ropes);
            due.is("nines on " + ropes, nines.relay(1, 9, 1), 11 * ropes);
        }
        GoatAbacus z = with(2, 99, 9, 9, 9);
        due.is("as slow as can be", z.relay(99, 1, 0), z.relay(99, 9, 1));
        due.is("as slow as can be: 9 till 9, in 18; 9 till 18; 1 till 27", z.relay(99, 1, 0), 27);
    }

    /** Promise 34: "the ORDER with the fewest WALKS, then the lower one". */
    private static void cheaper() {
        GoatAbacus x = new GoatAbacus(3);
        x.add(95, false);
        due.is("20 or 12 walks", x.cheaper(55), 1);
        due.is("as many", x.cheaper(5), 0);
        x.set(0, 1);
        due.is("as many, whatever ORDER is", x.cheaper(5), 0);
        x.act(4);
        x.add(5, false);
        due.is("8 or 24 walks", x.cheaper(95), 0);
    }

    public static void main(String[] args) {
        noSuchDone();
        nothingToDo();
        heardInTurn();
        carryWaits();
        carryAndShout();
        lastCarry();
        noSuchStanding();
        oneByOne();
        twoDrives();
        noSuchRelay();
        nextMinute();
        howManyDogs();
        allAtRest();
        cheaper();
        due.close();
    }
}
