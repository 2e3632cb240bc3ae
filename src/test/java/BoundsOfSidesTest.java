/** Boundary cases of promises 32, 33 and 41: what is TRIED on the side, NEEDS, FEWEST GOATS. */
public final class BoundsOfSidesTest {
    private static final Due due = new Due("BoundsOfSidesTest");
    private static final int LEAST = Integer.MIN_VALUE;
    private static final int MOST = Integer.MAX_VALUE;

    /** Promise 32: "NONE: no such ones."; promise 33: likewise; promise 41: "NONE: no such SUM." */
    private static void noSuchOnes() {
        for (int sum : new int[] {LEAST, -2, -1, 6, 7, MOST}) {
            Refused.everywhere(due, "tried(" + sum + ", 0)", x -> x.tried(sum, 0), -1);
            Refused.everywhere(due, "needs(" + sum + ", 0)", x -> x.needs(sum, 0), -1);
            Refused.everywhere(due, "herd(" + sum + ")", x -> x.herd(sum), -1);
        }
        for (int what : new int[] {LEAST, -1, 6, 7, MOST}) {
            Refused.everywhere(due, "tried(0, " + what + ")", x -> x.tried(0, what), -1);
        }
        for (int rope : new int[] {LEAST, -1, 6, 7, 12, MOST}) {
            Refused.everywhere(due, "needs(0, " + rope + ")", x -> x.needs(0, rope), -1);
        }
        Refused.by(due, "no sum to try", 6, x -> { }, x -> x.tried(0, 0), -1);
        Refused.by(due, "no sum to need", 6, x -> { }, x -> x.needs(0, 0), -1);
        Refused.by(due, "no sum to herd", 6, x -> { }, x -> x.herd(0), -1);
        Refused.by(due, "a third to try", 6, Refused::some, x -> x.tried(2, 0), -1);
        Refused.by(due, "a third to need", 6, Refused::some, x -> x.needs(2, 0), -1);
        Refused.by(due, "a third to herd", 6, Refused::some, x -> x.herd(2), -1);
    }

    /** The first and the last sum, what and rope that there are. */
    private static void firstAndLast() {
        for (int ropes = 2; ropes <= 12; ropes++) {
            GoatAbacus x = new GoatAbacus(ropes);
            for (int sum = 0; sum < 6; sum++) {
                due.is("sum", Due.sum(x, "t" + (sum + 1)), sum);
                due.is("the number it makes", x.tried(sum, 0), Model.pow(ropes) - sum - 1);
                due.is("OVER", x.tried(sum, 5), 1);
                due.is("needs of the last rope", x.needs(sum, ropes - 1), 9);
                due.is("needs behind the last rope", x.needs(sum, ropes), -1);
                due.is("herd", x.herd(sum), 9 * ropes - sum);
                due.is("the next sum", x.tried(sum + 1, 0), -1);
                due.is("the next sum", x.needs(sum + 1, 0), -1);
                due.is("the next sum", x.herd(sum + 1), -1);
            }
            due.is("nothing has changed", x.number(), 0);
            due.is("nothing has changed", x.told(3), 0);
            due.is("no act", x.told(6), 0);
        }
    }

    /** "1 .. 5: how much more": what was counted ahead is left out. */
    private static void howMuchMore() {
        GoatAbacus x = new GoatAbacus(2);
        x.goats(1, 8);
        x.set(1, 2);
        x.add(1, true);
        Due.sum(x, "a1;t1");
        Due.sum(x, "z;z");
        Due.sum(x, "a0x9;t000000000x9");
        // 99 should stand: short 1. And 1: 9 to 0, 8 to 9, but 8: short 1. Less 1: 0 to 9, 8 to 7.
        due.is("89 stands", x.number(), 89);
        long[] want = {79, 9 + 9 + 1, 2, 2 * 19 + 2 * 2, 1, 0};
        long[] empty = {0, 17, 0, 34, 0, 0};
        long[] nothing = {89, 0, 0, 0, 0, 0};
        for (int what = 0; what <= 5; what++) {
            due.is("tried(0, " + what + ")", x.tried(0, what), want[what]);
            due.is("tried(1, " + what + ")", x.tried(1, what), empty[what]);
            due.is("tried(2, " + what + ")", x.tried(2, what), nothing[what]);
        }
        due.is("walks so far", x.told(0), 17);
        due.is("short so far", x.told(4), 1);
    }

    /** "the greatest DIGIT that should have stood on it (ahead of what lacks), as it is at first, too". */
    private static void needs() {
        GoatAbacus x = new GoatAbacus(3);
        x.add(70, false);
        x.goats(0, 0);
        Due.sum(x, "z");
        Due.sum(x, "a9");
        Due.sum(x, "t1");
        due.is("as it is at first", x.needs(0, 1), 7);
        due.is("never more than 0", x.needs(0, 0), 0);
        due.is("ahead of what lacks", x.needs(1, 0), 9);
        due.is("as it is at first", x.needs(1, 1), 7);
        due.is("nothing there", x.needs(1, 2), 0);
        due.is("round", x.needs(2, 0), 9);
        due.is("less than at first", x.needs(2, 1), 7);
        due.is("from an empty valley: nothing", x.herd(0), 0);
        due.is("from an empty valley: 9", x.herd(1), 9);
        due.is("from an empty valley: nines", x.herd(2), 27);
    }

    /** The side is a valley as the object's own is, whatever was done there ahead. */
    private static void afterOthers() {
        for (int ropes : new int[] {2, 12}) {
            GoatAbacus x = new GoatAbacus(ropes);
            Due.sum(x, "t1");
            Due.sum(x, "a95;a55");
            x.goats(0, 3);
            due.is("a product on nine ropes", x.product(9999, 9999, 2, 2), 99980001);
            due.is("tried", x.tried(0, 0), Model.pow(ropes) - 7);
            due.is("short", x.tried(0, 4), 6);
            due.is("herd, goats enough", x.herd(0), 9 * ropes);
            x.product(1, 1, 0, 0);
            due.is("cheaper", x.cheaper(55), 0);
            x.product(9999, 1, 0, 0);
            due.is("needs", x.needs(0, ropes - 1), 9);
            x.product(9999, 1, 0, 0);
            due.is("herd", x.herd(1), ropes == 2 ? 14 : 15);
        }
    }

    /** As much as a sum can be: 12 steps, nine times each. */
    private static void theGreatest() {
        GoatAbacus x = new GoatAbacus(12);
        Due.sum(x, "a999999999x9" + ";a999999999x9".repeat(11));
        due.is("108 times", x.tried(0, 0), 108L * 999999999L);
        due.is("eleven digits", x.needs(0, 11), 1);
        due.is("nothing has changed", x.number(), 0);
        due.is("run", x.run(0), 108);
        due.is("as tried", x.number(), 108L * 999999999L);
    }

    public static void main(String[] args) {
        noSuchOnes();
        firstAndLast();
        howMuchMore();
        needs();
        afterOthers();
        theGreatest();
        due.close();
    }
}
