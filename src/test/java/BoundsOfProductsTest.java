/** Boundary cases of promises 29 to 31 and 45: PRODUCT, RIVAL, ALL DIGITS, MAKE. */
public final class BoundsOfProductsTest {
    private static final Due due = new Due("BoundsOfProductsTest");
    private static final int LEAST = Integer.MIN_VALUE;
    private static final int MOST = Integer.MAX_VALUE;

    /** Promise 29: "(0 .. 2) .. (0), (1), (2). NONE: no such ones."; "(0 .. 9,999 each)". */
    private static void noSuchProduct() {
        int[][] none = {{-1, 1, 0, 0}, {10000, 1, 0, 0}, {LEAST, 1, 0, 0}, {MOST, 1, 0, 0}, {1, -1, 0, 0}, {1, 10000, 0, 0},
            {1, LEAST, 0, 0}, {1, MOST, 0, 0}, {1, 1, -1, 0}, {1, 1, 3, 0}, {1, 1, LEAST, 0}, {1, 1, MOST, 0}, {1, 1, 0, -1},
            {1, 1, 0, 3}, {1, 1, 0, LEAST}, {1, 1, 0, MOST}};
        for (int[] n : none) {
            String told = "product(" + n[0] + ", " + n[1] + ", " + n[2] + ", " + n[3] + ")";
            Refused.everywhere(due, told, x -> x.product(n[0], n[1], n[2], n[3]), -1);
            if (n[2] == 0 && n[3] == 0) {
                Refused.everywhere(due, "rival(" + n[0] + ", " + n[1] + ")", x -> x.rival(n[0], n[1]), -1);
            }
        }
    }

    /** The edges of a and b; the valley of the product has 9 ropes, whatever the object has. */
    private static void products() {
        int[] edges = {0, 1, 2, 9, 10, 1000, 4095, 4096, 8191, 8192, 9998, 9999};
        for (int ropes : new int[] {2, 12}) {
            GoatAbacus x = new GoatAbacus(ropes);
            for (int a : edges) {
                for (int b : edges) {
                    for (int way = 0; way <= 2; way++) {
                        due.is(a + " times " + b + " by " + way, x.product(a, b, way, 2), (long) a * b);
                    }
                }
            }
        }
    }

    /** "ADDS and DOUBLES": no digits and no bits for 0, the highest bit first. */
    private static void howMany() {
        GoatAbacus x = new GoatAbacus(2);
        int[][] want = {{0, 0, 0}, {1, 1, 2}, {2, 2, 3}, {3, 3, 4}, {9, 9, 6}, {10, 1, 6}, {1000, 1, 16}, {4095, 18, 24},
            {4096, 19, 14}, {8191, 19, 26}, {8192, 20, 15}, {9999, 36, 22}};
        for (int[] w : want) {
            for (int a : new int[] {0, 1, 9999}) {
                due.is("adds by 0 for " + w[0], x.product(a, w[0], 0, 1), w[1]);
                due.is("adds by 1 for " + w[0], x.product(a, w[0], 1, 1), w[1]);
                due.is("adds and doubles for " + w[0], x.product(a, w[0], 2, 1), w[2]);
            }
            for (int way = 0; way <= 2; way++) {
                due.is("0 walks nowhere", x.product(0, w[0], way, 0), 0);
            }
        }
    }

    /** Promise 30: "the WAY with the fewest WALKS (of several the lowest)". */
    private static void rivals() {
        GoatAbacus x = new GoatAbacus(2);
        due.is("0 times 0", x.rival(0, 0), 0);
        due.is("9,999 times 0", x.rival(9999, 0), 0);
        due.is("0 times 9,999", x.rival(0, 9999), 0);
        due.is("1 times 1: all alike", x.rival(1, 1), 0);
        // 21 times 24: 27, 25, 35; 2 times 6: 15, 15, 11; 5 times 3: 16 each.
        due.is("the second", x.rival(21, 24), 1);
        due.is("the third", x.rival(2, 6), 2);
        due.is("all alike", x.rival(5, 3), 0);
        long[] walks = {x.product(9999, 9999, 0, 0), x.product(9999, 9999, 1, 0), x.product(9999, 9999, 2, 0)};
        int best = walks[1] < walks[0] ? 1 : 0;
        best = walks[2] < walks[best] ? 2 : best;
        due.is("9,999 times 9,999", x.rival(9999, 9999), best);
    }

    /** Nothing of the object itself counts: its goats, its ORDER, its ECHOES, its NUMBER. */
    private static void fromAnEmptyValley() {
        GoatAbacus x = new GoatAbacus(2);
        GoatAbacus y = new GoatAbacus(2);
        y.add(99, false);
        y.set(0, 1);
        y.echo(2, 3, 100);
        y.act(4);
        y.goats(0, 0);
        y.goats(1, 1);
        y.cheaper(55);
        for (int way = 0; way <= 2; way++) {
            for (int what = 0; what <= 2; what++) {
                due.is("the same", y.product(9876, 5432, way, what), x.product(9876, 5432, way, what));
            }
        }
        due.is("the same", y.make(987, 0), x.make(987, 0));
        // 95, and 95: 5 to 0, 9 to 0, 0 to 1, 0 to 9; by the other ORDER it would be 8 instead of 24.
        due.is("95 times 2 by ORDER 0", y.product(95, 2, 0, 0), 14 + 24);
        due.is("95 times 2 by ORDER 0", y.product(95, 2, 1, 0), 14 + 24);
        // 47, twice: 94 (8), and 47: 4 to 1, 9 to 0, 0 to 1, 0 to 4.
        due.is("47 times 3 by ORDER 0", y.product(47, 3, 2, 0), 11 + 8 + 17);
        due.is("nothing has changed", y.told(0), 36);
        due.is("nothing has changed", y.rope(0, 1), 0);
    }

    /** Promise 31: "NONE: it can't be, no such ones (weights 1 .. 511)."; "(n 1 .. 9 ..)". */
    private static void allDigits() {
        int[][] none = {{0, 1, 0}, {-1, 1, 0}, {LEAST, 1, 0}, {512, 1, 0}, {513, 1, 0}, {MOST, 1, 0}, {1, 0, 0}, {1, -1, 0},
            {1, LEAST, 0}, {1, 10, 0}, {1, MOST, 0}, {1, 1, -1}, {1, 1, 2}, {1, 1, LEAST}, {1, 1, MOST}};
        for (int[] n : none) {
            Refused.everywhere(due, "all(" + n[0] + ", " + n[1] + ", " + n[2] + ")", x -> x.all(n[0], n[1], n[2]), -1);
        }
        GoatAbacus x = new GoatAbacus(2);
        for (int n = 1; n <= 9; n++) {
            due.is("ones alone to " + n, x.all(1, n, 0), n);
            due.is("ones alone to " + n, x.all(1, n, 1), n);
            due.is("without 1 to " + n, x.all(510, n, 0), -1);
            due.is("without 1 to " + n, x.all(510, n, 1), -1);
            due.is("9 alone to " + n, x.all(256, n, 0), -1);
        }
        int[] fewest = {0, 1, 2, 2, 3, 3, 3, 3, 4, 4};
        for (int n = 1; n <= 9; n++) {
            due.is("all weights to " + n, x.all(511, n, 0), fewest[n]);
        }
        due.is("all weights to 1: one of 1", x.all(511, 1, 1), 1);
        // Two of 1, or one of 1 and one of 2: fewer of 1 first.
        due.is("all weights to 2", x.all(511, 2, 1), 11);
        due.is("all weights to 9", x.all(511, 9, 1), 10001011);
        due.is("1 and 9 to 9: nine, fewer of 1", x.all(257, 9, 1), 100000008);
        due.is("1 and 9 to 8", x.all(257, 8, 1), 8);
        due.is("1 and 8 to 8: 7 and one of 8", x.all(129, 8, 1), 10000007);
        due.is("1 and 2 to 9", x.all(3, 9, 1), 41);
    }

    /** Promise 45: "NONE: no such ones."; "a number of 0 .. 999". */
    private static void made() {
        int[][] none = {{-1, 0}, {LEAST, 0}, {1000, 0}, {MOST, 0}, {5, -1}, {5, 2}, {5, LEAST}, {5, MOST}, {1000, 1}, {-1, 1}};
        for (int[] n : none) {
            Refused.everywhere(due, "make(" + n[0] + ", " + n[1] + ")", x -> x.make(n[0], n[1]), -1);
        }
        GoatAbacus x = new GoatAbacus(2);
        int[][] want = {{0, 0, 0}, {1, 1, 1}, {9, 9, 1}, {10, 1, 1}, {99, 18, 2}, {100, 1, 1}, {101, 2, 2}, {998, 26, 3},
            {999, 27, 3}};
        for (int[] w : want) {
            due.is("walks for " + w[0], x.make(w[0], 0), w[1]);
            due.is("acts for " + w[0], x.make(w[0], 1), w[2]);
        }
    }

    public static void main(String[] args) {
        noSuchProduct();
        products();
        howMany();
        rivals();
        fromAnEmptyValley();
        allDigits();
        made();
        due.close();
    }
}
