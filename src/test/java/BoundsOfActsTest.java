/** Boundary cases of promises 11 to 14, 46 and 47: ACTS, carries, what is lost, what is UNDONE, IMAGES. */
public final class BoundsOfActsTest {
    private static final Due due = new Due("BoundsOfActsTest");
    private static final int LEAST = Integer.MIN_VALUE;
    private static final int MOST = Integer.MAX_VALUE;

    private static void told(GoatAbacus x, String when, int... want) {
        for (int what = 0; what < want.length; what++) {
            due.is(when + ": told(" + what + ")", x.told(what), want[what]);
        }
    }

    /** Promise 11: "NONE: out of bounds."; "a number (0 .. 999,999,999)". */
    private static void whatIsAdded() {
        int[] none = {LEAST, -1000000000, -1, 1000000000, MOST};
        for (int number : none) {
            Refused.everywhere(due, "add(" + number + ")", x -> x.add(number, false), -1);
            Refused.everywhere(due, "take(" + number + ")", x -> x.add(number, true), -1);
        }
        GoatAbacus x = new GoatAbacus(9);
        due.is("0", x.add(0, false), 1);
        due.is("nothing", x.number(), 0);
        due.is("the most", x.add(999999999, false), 2);
        due.is("nines", x.number(), 999999999);
        due.is("0 off", x.add(0, true), 3);
        due.is("the most off", x.add(999999999, true), 4);
        due.is("empty", x.number(), 0);
        told(x, "there and back", 162, 0, 162, 0, 0, 0, 4);
    }

    /** "its DIGIT becomes (DIGIT and k) less 10, if that is 10 or more, with a CARRY .. else DIGIT and k". */
    private static void drivenOn() {
        for (int digit = 0; digit <= 9; digit++) {
            for (int k = 0; k <= 9; k++) {
                GoatAbacus x = new GoatAbacus(2);
                x.add(digit, false);
                x.add(k, false);
                due.is(digit + " and " + k, x.number(), digit + k);
                boolean carry = digit + k >= 10;
                int walks = carry ? 10 - k + 1 : k;
                told(x, digit + " and " + k, digit + walks, carry ? 1 : 0, digit + walks + (carry ? 2 : 0), 0);
            }
        }
    }

    /** "DIGIT less k, and 10 more, if that is below 0, with a CARRY: 1 is driven off the next ROPE likewise." */
    private static void drivenOff() {
        for (int digit = 0; digit <= 9; digit++) {
            for (int k = 0; k <= 9; k++) {
                GoatAbacus x = new GoatAbacus(2);
                x.add(50 + digit, false);
                x.add(k, true);
                due.is("5" + digit + " less " + k, x.number(), 50 + digit - k);
                boolean carry = digit < k;
                int walks = 5 + digit + (carry ? 10 - k + 1 : k);
                told(x, "5" + digit + " less " + k, walks, carry ? 1 : 0, walks + (carry ? 2 : 0), 0);
            }
        }
    }

    /** "above the last it is lost: OVER 1 more": the number goes round, on every count of ropes. */
    private static void goesRound() {
        for (int ropes = 2; ropes <= 12; ropes++) {
            GoatAbacus x = new GoatAbacus(ropes);
            x.add(1, true);
            due.is("0 less 1", x.number(), Model.pow(ropes) - 1);
            told(x, "0 less 1", 9 * ropes, ropes, 11 * ropes, 1, 0, 0, 1);
            x.add(1, false);
            due.is("nines and 1", x.number(), 0);
            told(x, "nines and 1", 18 * ropes, 2 * ropes, 22 * ropes, 2, 0, 0, 2);
            // The carry stops at the first rope that has room.
            x.add(9, false);
            x.add(1, false);
            due.is("9 and 1", x.number(), 10);
            due.is("nothing lost", x.told(3), 2);
        }
    }

    /** "(higher ones are lost: OVER 1 more, if one of these is not 0)". */
    private static void higherDigits() {
        for (int ropes = 2; ropes <= 12; ropes++) {
            GoatAbacus x = new GoatAbacus(ropes);
            int fits = (int) Math.min(Model.pow(ropes) - 1, 999999999);
            x.add(fits, false);
            due.is("as many digits as ropes", x.number(), fits);
            due.is("nothing lost", x.told(3), 0);
            x.act(4);
            x.add(fits, true);
            due.is("taken, a carry lost by more than it has", x.told(3), 1);
            if (ropes <= 8) {
                GoatAbacus y = new GoatAbacus(ropes);
                y.add(fits + 1, false);
                due.is("one digit more", y.number(), 0);
                told(y, "one digit more", 0, 0, 0, 1, 0, 0, 1);
                y.add(fits + 1, true);
                due.is("taken likewise", y.number(), 0);
                due.is("lost again", y.told(3), 2);
                y.add(900000000, false);
                due.is("the highest alone", y.told(3), 3);
                y.add(999999999, false);
                due.is("once for all that are lost", y.told(3), 4);
                due.is("nines stay", y.number(), fits);
                y.add(100000001, false);
                due.is("once for the digits, once for the carry", y.told(3), 6);
                due.is("round", y.number(), 0);
            }
        }
    }

    /** "from ROPE 0 up to the highest DIGIT that is not 0": 0 takes no draw, each digit below takes one. */
    private static void howManyDraws() {
        int[] numbers = {0, 9, 90, 99, 900, 909, 999, 1000};
        int[] draws = {0, 1, 2, 2, 3, 3, 3, 0};
        for (int i = 0; i < numbers.length; i++) {
            for (int order = 0; order <= 1; order++) {
                GoatAbacus x = new GoatAbacus(3);
                x.set(0, order);
                x.add(numbers[i], false);
                x.act(4);
                x.echo(1, 2, 50);
                x.add(111, false);
                long state = 0;
                long want = 0;
                for (int draw = 0; draw < draws[i] + 3; draw++) {
                    state = state * 6364136223846793005L + 1442695040888963407L;
                    int turn = draw - draws[i];
                    int digit = (state >>> 33) % 100 < 50 ? 2 : 1;
                    want += turn < 0 ? 0 : digit * Model.pow(order == 0 ? turn : 2 - turn);
                }
                due.is("draws of " + numbers[i] + " by ORDER " + order, x.number(), want);
            }
        }
        GoatAbacus y = new GoatAbacus(3);
        y.echo(1, 2, 50);
        y.act(2);
        y.act(3);
        y.act(4);
        y.add(111, false);
        GoatAbacus z = new GoatAbacus(3);
        z.echo(1, 2, 50);
        z.add(111, false);
        due.is("nothing is shouted to double, halve, empty", y.number(), z.number());
    }

    /** Promise 12: "NONE: no such what."; DOUBLE (2), HALVE (3), empty (4). */
    private static void whatIsDone() {
        int[] none = {LEAST, -1, 0, 1, 5, 6, MOST};
        for (int what : none) {
            Refused.everywhere(due, "act(" + what + ")", x -> x.act(what), -1);
        }
        GoatAbacus x = new GoatAbacus(2);
        due.is("double nothing", x.act(2), 1);
        due.is("halve nothing", x.act(3), 2);
        due.is("empty nothing", x.act(4), 3);
        told(x, "nothing", 0, 0, 0, 0, 0, 0, 3);
        due.is("three can be undone", x.count(4), 3);
    }

    /** "To DOUBLE: from the highest ROPE down, each DIGIT as it was ahead of all is driven on once more". */
    private static void doubled() {
        for (int number = 0; number <= 99; number++) {
            GoatAbacus x = new GoatAbacus(2);
            x.add(number, false);
            int walks = x.told(0);
            x.act(2);
            due.is(number + " twice", x.number(), 2 * number % 100);
            int tens = number / 10;
            int ones = number % 10;
            int tensThen = 2 * tens % 10;
            int more = Math.abs(tensThen - tens) + Math.abs(2 * ones % 10 - ones) + (ones >= 5 ? 1 : 0);
            int carries = (tens >= 5 ? 1 : 0) + (ones >= 5 ? 1 : 0);
            told(x, number + " twice", walks + more, carries, walks + more + 2 * carries, tens >= 5 ? 1 : 0);
        }
    }

    /** "10 times the rest and the DIGIT: by 2, cut .. the last rest is LEFT (0 at first)". */
    private static void halved() {
        for (int number = 0; number <= 99; number++) {
            GoatAbacus x = new GoatAbacus(2);
            x.add(number, false);
            due.is("left at first", x.told(5), 0);
            x.act(3);
            due.is(number + " by 2", x.number(), number / 2);
            due.is("left of " + number, x.told(5), number % 2);
            int walks = number / 10 + number % 10 + Math.abs(number / 10 - number / 20)
                    + Math.abs(number % 10 - number / 2 % 10);
            told(x, number + " by 2", walks, 0, walks, 0, 0);
            x.act(4);
            x.act(3);
            due.is("left is of the latest", x.told(5), 0);
        }
    }

    /** Twice and half on as many ropes as there may be, and on all others. */
    private static void onAllRopes() {
        for (int ropes = 2; ropes <= 12; ropes++) {
            GoatAbacus x = new GoatAbacus(ropes);
            x.add(1, true);
            x.act(2);
            due.is("nines twice", x.number(), Model.pow(ropes) - 2);
            due.is("the highest is lost", x.told(3), 2);
            x.act(3);
            due.is("half", x.number(), (Model.pow(ropes) - 2) / 2);
            due.is("nothing left", x.told(5), 0);
            x.act(3);
            due.is("half of an odd one", x.number(), (Model.pow(ropes) - 4) / 4);
            due.is("one left", x.told(5), 1);
            x.act(4);
            due.is("empty", x.number(), 0);
            due.is("nothing more is lost", x.told(3), 2);
        }
    }

    /** The goats are too few in each kind of act: for 9 on the way round, for a carry, for a half, for twice. */
    private static void tooFew() {
        GoatAbacus x = new GoatAbacus(3);
        x.goats(0, 8);
        x.goats(1, 0);
        x.add(1, true);
        // 9, 9, 9 should be: 8 of 8, none of none, 9.
        due.is("round with too few", x.number(), 908);
        told(x, "round with too few", 17, 3, 23, 1, 1 + 9);
        x.add(8, false);
        // 16: 6 with a carry that finds no goat.
        due.is("a carry to no goats", x.number(), 906);
        told(x, "a carry to no goats", 17 + 2, 4, 19 + 8, 1, 11);
        x.act(3);
        // 4 and 1 left, 5 that can't be, 3.
        due.is("half", x.number(), 403);
        told(x, "half", 19 + 5 + 3, 4, 27 + 8, 1, 16, 0);
        x.goats(2, 4);
        x.act(2);
        // 8 of which 4 can, 0, 6.
        due.is("twice", x.number(), 406);
        told(x, "twice", 27 + 3, 4, 35 + 3, 1, 20, 0);
        x.act(4);
        due.is("empty is never short", x.told(4), 20);
    }

    /** Promise 13: "NONE: no such one."; "(a STEP x 3 is three)". */
    private static void runs() {
        int[] none = {LEAST, -1, 6, 7, MOST};
        for (int sum : none) {
            Refused.everywhere(due, "run(" + sum + ")", x -> x.run(sum), -1);
        }
        Refused.by(due, "run(0), no sum", 6, x -> x.add(5, false), x -> x.run(0), -1);
        Refused.by(due, "run(2) of two", 6, Refused::some, x -> x.run(2), -1);
        GoatAbacus x = new GoatAbacus(12);
        Due.sum(x, "z");
        Due.sum(x, "a1x9" + ";a1x9".repeat(11));
        due.is("the first", x.run(0), 1);
        due.is("the last: 12 steps by 9", x.run(1), 109);
        due.is("each is one act", x.number(), 108);
        due.is("40 of them can be undone", x.count(4), 40);
        for (int i = 1; i <= 40; i++) {
            due.is("undo", x.undo(), 109 - i);
            due.is("one by one", x.number(), 108 - i);
        }
        due.is("no more", x.undo(), -1);
        due.is("as it was", x.number(), 68);
    }

    /** Promise 14: "NONE: none that can be."; "The latest 40 can be UNDONE". */
    private static void undone() {
        for (int acts : new int[] {0, 1, 39, 40, 41, 79, 80, 81, 120}) {
            GoatAbacus x = new GoatAbacus(4);
            for (int i = 1; i <= acts; i++) {
                x.add(1, false);
                due.is("can be undone", x.count(4), Math.min(i, 40));
            }
            int can = Math.min(acts, 40);
            for (int i = 1; i <= can; i++) {
                due.is("undo", x.undo(), acts - i);
                due.is("number", x.number(), acts - i);
                due.is("can be undone", x.count(4), can - i);
            }
            due.is("none that can be, of " + acts, x.undo(), -1);
            due.is("as it was", x.number(), acts - can);
            due.is("acts", x.told(6), acts - can);
            due.is("none", x.count(4), 0);
            x.add(2, false);
            due.is("one again", x.count(4), 1);
            due.is("undo", x.undo(), acts - can);
            due.is("number", x.number(), acts - can);
        }
        Refused.by(due, "undo, nothing was", 6, x -> { }, GoatAbacus::undo, -1);
        Refused.by(due, "undo, all is undone", 6, x -> {
            Refused.some(x);
            for (int i = 0; i < 4; i++) {
                due.is("undo", x.undo(), 3 - i);
            }
        }, GoatAbacus::undo, -1);
        Refused.by(due, "undo, forty are undone", 6, x -> {
            Refused.full(x);
            for (int i = 0; i < 40; i++) {
                due.is("undo", x.undo(), 41 - i);
            }
        }, GoatAbacus::undo, -1);
    }

    /** "all is as ahead of it (DIGITS, WALKS, CARRIES, MINUTES, OVER, SHORT, LEFT, draws)"; a refused call is no ACT. */
    private static void undoneWhole() {
        GoatAbacus x = new GoatAbacus(2);
        x.echo(1, 2, 50);
        x.goats(1, 6);
        x.add(77, false);
        x.act(3);
        due.is("67 by 2", x.number(), 33);
        told(x, "ahead", 7 + 6 + 3 + 4, 0, 20, 0, 1, 1, 2);
        due.is("no act", x.add(-1, false), -1);
        due.is("no act", x.act(9), -1);
        due.is("no act", x.run(0), -1);
        x.add(999, false);
        due.is("over", x.told(3) > 0, true);
        due.is("undo", x.undo(), 2);
        told(x, "behind", 20, 0, 20, 0, 1, 1, 2);
        x.add(11, false);
        long heard = x.number();
        x.undo();
        x.add(11, false);
        due.is("the same draws", x.number(), heard);
        x.undo();
        x.undo();
        due.is("left as ahead of it", x.told(5), 0);
        due.is("67 then", x.number(), 67);
        x.undo();
        told(x, "new", 0, 0, 0, 0, 0, 0, 0);
        // All that an act can change, there and back.
        GoatAbacus z = new GoatAbacus(2);
        z.echo(1, 2, 50);
        z.wind(-5);
        z.goats(1, 8);
        z.add(1, true);
        z.act(3);
        told(z, "ahead", 9 + 8 + 4 + 5, 2, 17 + 4 + 9, 1, 1, 1, 2);
        due.is("89 by 2", z.number(), 44);
        z.add(111, false);
        long first = z.number();
        z.undo();
        z.add(996, true);
        due.is("undo", z.undo(), 2);
        due.is("44 again", z.number(), 44);
        told(z, "behind", 9 + 8 + 4 + 5, 2, 17 + 4 + 9, 1, 1, 1, 2);
        z.add(111, false);
        due.is("the draws again", z.number(), first);
        z.undo();
        z.undo();
        told(z, "one ahead", 9 + 8, 2, 17 + 4, 1, 1, 0, 1);
        z.undo();
        told(z, "none", 0, 0, 0, 0, 0, 0, 0);
        z.add(11, false);
        GoatAbacus twin = new GoatAbacus(2);
        twin.echo(1, 2, 50);
        twin.wind(-5);
        twin.goats(1, 8);
        twin.add(11, false);
        due.is("the first draws", z.number(), twin.number());
        // What is no ACT is not undone, and the goats may be fewer then than the digit.
        GoatAbacus y = new GoatAbacus(2);
        y.add(9, false);
        y.act(4);
        y.goats(0, 3);
        y.set(1, 5);
        due.is("undo", y.undo(), 1);
        due.is("digit as it was", y.rope(0, 0), 9);
        due.is("goats as they are", y.rope(0, 1), 3);
        due.is("not fewer than its digit", y.goats(0, 8), false);
        due.is("to be driven by 0: 9 to 3", y.done(10, 0), 30);
        due.is("not driven", y.done(0, 0), 0);
        due.is("relay", y.relay(10, 1, 0), 30);
        due.is("relay, not driven", y.relay(0, 1, 0), 0);
        y.add(0, false);
        due.is("nothing is driven by 0", y.number(), 9);
        y.add(10, false);
        due.is("as many as there are", y.number(), 13);
        due.is("short", y.told(4), 6);
        due.is("undo", y.undo(), 2);
        due.is("as many as its digit", y.goats(0, 9), true);
        y.add(10, false);
        due.is("enough", y.number(), 19);
    }

    /** Promise 46: "An IMAGE (instead of the one ahead): ACTS."; promise 47: "BACK: ACTS (as then). NONE: no IMAGE." */
    private static void images() {
        Refused.by(due, "back, no image", 6, x -> { }, GoatAbacus::back, -1);
        Refused.by(due, "back, no image", 6, x -> {
            x.add(195, false);
            x.harvest(7);
            Due.feed(x, "d");
        }, GoatAbacus::back, -1);
        GoatAbacus x = new GoatAbacus(3);
        x.add(5, false);
        due.is("no image", x.back(), -1);
        due.is("can still be undone", x.count(4), 1);
        due.is("undo", x.undo(), 0);
        due.is("an image of the empty valley", x.image(), 0);
        x.add(5, false);
        x.add(6, false);
        due.is("back", x.back(), 0);
        due.is("empty", x.number(), 0);
        due.is("nothing can be undone", x.undo(), -1);
        due.is("nothing can be undone", x.count(4), 0);
        x.add(7, false);
        due.is("one can again", x.count(4), 1);
        due.is("back again", x.back(), 0);
        due.is("and again", x.back(), 0);
        x.add(8, false);
        due.is("instead", x.image(), 1);
        due.is("what can be undone stays", x.count(4), 1);
        due.is("undo goes behind the image", x.undo(), 0);
        due.is("empty", x.number(), 0);
        due.is("back to the later one", x.back(), 1);
        due.is("8", x.number(), 8);
        due.is("none can be undone", x.undo(), -1);
    }

    /** "(DIGITS, WALKS, CARRIES, MINUTES, OVER, SHORT, LEFT, draws, GOATS, TWO, FOG ..)": each of them again, nothing else. */
    private static void imagesWhole() {
        GoatAbacus x = new GoatAbacus(2);
        x.echo(1, 2, 50);
        x.wind(-5);
        x.goats(1, 8);
        x.add(1, true);
        x.act(3);
        x.two(0, true);
        x.fog(1, true);
        int[] want = {9 + 8 + 4 + 5, 2, 17 + 4 + 9, 1, 1, 1, 2};
        told(x, "ahead", want);
        due.is("image", x.image(), 2);
        x.add(111, false);
        long first = x.number();
        x.add(996, true);
        x.act(4);
        x.act(3);
        x.goats(0, 1);
        x.goats(1, 12);
        x.two(0, false);
        x.two(1, true);
        x.fog(0, true);
        x.fog(1, false);
        x.wind(77);
        for (int times = 0; times < 2; times++) {
            due.is("back", x.back(), 2);
            due.is("number", x.number(), 44);
            told(x, "back", want);
            due.is("goats", x.rope(0, 1), 9);
            due.is("goats", x.rope(1, 1), 8);
            due.is("two, no fog", x.rope(0, 2), 5);
            due.is("fog", x.rope(1, 2), -2);
            x.fog(1, false);
            due.is("not two", x.rope(1, 2), 4);
            x.add(111, false);
            due.is("the draws again", x.number(), first);
        }
    }

    /** "An object is used for at most 512 calls": what is counted goes on to the last of them. */
    private static void fiveHundredAndTwelve() {
        GoatAbacus x = new GoatAbacus(12);
        x.set(1, 9);
        x.set(2, 9);
        x.feed(0x74313b61, 0x313b7431, 0x3b61313b, 0x74313b61, 0x313b7431);
        x.feed(0x3b61313b, 0x74313b61, 0x313b7431, 0x3b613100, 0);
        due.is("t1;a1, six times", x.text(), 0);
        for (int i = 1; i <= 498; i++) {
            due.is("run", x.run(0), 12 * i);
        }
        // Each act goes round on all twelve ropes.
        int acts = 12 * 498;
        told(x, "498 runs", 108 * acts, 12 * acts, 9 * 108 * acts + 9 * 12 * acts, acts, 0, 0, acts);
        due.is("the 512th call", x.number(), 0);
    }

    public static void main(String[] args) {
        whatIsAdded();
        drivenOn();
        drivenOff();
        goesRound();
        higherDigits();
        howManyDraws();
        whatIsDone();
        doubled();
        halved();
        onAllRopes();
        tooFew();
        runs();
        undone();
        undoneWhole();
        images();
        imagesWhole();
        fiveHundredAndTwelve();
        due.close();
    }
}
