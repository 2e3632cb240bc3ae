/** Promises 29 to 31 and 45: products, rivals, all digits, numbers made. */
public final class ProductsTest {
    private static final Due due = new Due("ProductsTest");

    private static void products() {
        GoatAbacus x = new GoatAbacus(2);
        x.goats(0, 0);
        x.set(0, 1);
        x.echo(1, 2, 100);
        int[][] pairs = {{0, 0}, {0, 5}, {5, 0}, {1, 1}, {12, 11}, {9999, 9999}, {9999, 1000}, {37, 4096}};
        for (int[] p : pairs) {
            for (int way = 0; way <= 2; way++) {
                due.is(p[0] + " times " + p[1], x.product(p[0], p[1], way, 2), (long) p[0] * p[1]);
            }
        }
        due.is("5 times 0", x.product(5, 0, 2, 1), 0);
        due.is("0 times 5, adds", x.product(0, 5, 0, 1), 5);
        due.is("0 times 5, adds and doubles", x.product(0, 5, 2, 1), 5);
        due.is("0 times 5, walks", x.product(0, 5, 2, 0), 0);
        due.is("7 times 203", x.product(7, 203, 1, 1), 5);
        // 7, 14 (3 and 1), 21 (3 and 1): 15; 700, 1400: 7, 3 and 1.
        due.is("7 times 203", x.product(7, 203, 0, 0), 15 + 11);
        due.is("7 times 203", x.product(7, 203, 1, 0), 15 + 11);
        // 5 times 3, by bits: double 0, 5 (5), 10 (5 and 1), 15 (5).
        due.is("5 times 3", x.product(5, 3, 2, 0), 16);
        // 5, 10 (5 and 1), 15 (5).
        due.is("5 times 3", x.product(5, 3, 0, 0), 16);
        due.is("5 times 3", x.rival(5, 3), 0);
        due.is("no walks", x.rival(0, 9999), 0);
        due.is("1 times 9: 9 walks, by bits 1, 1, 2, 4, 1", x.rival(1, 9), 0);
        due.is("1 times 9", x.product(1, 9, 2, 0), 9);
        // 0: four times 3, then 210: 1 and 2, then 9 to 0, 1 and 2; 1: 3, 3, 3, 3, 3, then 1, 8 to 0, 1.
        due.is("21 times 24", x.product(21, 24, 0, 0), 27);
        due.is("21 times 24", x.product(21, 24, 1, 0), 25);
        due.is("21 times 24", x.product(21, 24, 2, 0), 35);
        due.is("21 times 24", x.rival(21, 24), 1);
        // 2: 2, 4, 6 (2 each), 12 (6 to 2, and 1).
        due.is("2 times 6", x.product(2, 6, 2, 0), 11);
        due.is("2 times 6", x.rival(2, 6), 2);
        int[][] none = {{-1, 0, 0, 0}, {10000, 0, 0, 0}, {0, -1, 0, 0}, {0, 10000, 0, 0}, {0, 0, -1, 0},
            {0, 0, 3, 0}, {0, 0, 0, -1}, {0, 0, 0, 3}};
        for (int[] n : none) {
            due.is("refused", x.product(n[0], n[1], n[2], n[3]), -1);
        }
        due.is("refused", x.rival(-1, 0), -1);
        due.is("refused", x.rival(0, 10000), -1);
        due.is("nothing has changed", x.told(0), 0);
    }

    private static void allDigits() {
        GoatAbacus x = new GoatAbacus(2);
        due.is("1 alone", x.all(1, 9, 0), 9);
        due.is("1 alone", x.all(1, 9, 1), 9);
        due.is("1 alone", x.all(1, 1, 1), 1);
        due.is("1, 2", x.all(3, 2, 1), 11);
        due.is("1, 2, to 9: one 1, four 2", x.all(3, 9, 0), 5);
        due.is("1, 2, to 9: one 1, four 2", x.all(3, 9, 1), 41);
        due.is("without 1", x.all(510, 9, 0), -1);
        due.is("all weights, to 9", x.all(511, 9, 0), 4);
        // One of 1, one of 2, none of 3, so one of 4, and as few of 5, 6, 7 as can be: one of 8.
        due.is("all weights, to 9", x.all(511, 9, 1), 10001011);
        due.is("all weights, to 7", x.all(511, 7, 1), 1011);
        due.is("all weights, to 3: 1, 2", x.all(511, 3, 1), 11);
        due.is("1 and 9, to 9: eight 1 and one 9", x.all(257, 9, 1), 100000008);
        due.is("1 and 9, to 9", x.all(257, 9, 0), 9);
        due.is("1, 5 to 9", x.all(17, 9, 1), 10004);
        int[][] none = {{0, 1, 0}, {512, 1, 0}, {513, 1, 0}, {-1, 1, 0}, {1, 0, 0}, {1, 10, 0}, {1, 1, 2}, {1, 1, -1}};
        for (int[] n : none) {
            due.is("refused", x.all(n[0], n[1], n[2]), -1);
        }
    }

    private static void made() {
        GoatAbacus x = new GoatAbacus(2);
        int[][] want = {{0, 0, 0}, {1, 1, 1}, {9, 9, 1}, {10, 1, 1}, {11, 2, 2}, {100, 1, 1}, {999, 27, 3}};
        for (int[] w : want) {
            due.is("walks to " + w[0], x.make(w[0], 0), w[1]);
            due.is("acts to " + w[0], x.make(w[0], 1), w[2]);
        }
        int[][] none = {{-1, 0}, {1000, 0}, {1, 2}, {1, -1}};
        for (int[] n : none) {
            due.is("refused", x.make(n[0], n[1]), -1);
        }
        due.is("nothing has changed", x.told(6), 0);
    }

    public static void main(String[] args) {
        products();
        allDigits();
        made();
        due.close();
    }
}
