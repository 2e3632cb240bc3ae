/** Promises 2 to 6: the TAPE and SUMS. */
public final class TapeTest {
    private static final Due due = new Due("TapeTest");

    private static void fault(String text, int want) {
        GoatAbacus x = new GoatAbacus(4);
        Due.feed(x, text);
        due.is("fault of '" + text + "'", x.fault(), want);
        due.is("text of '" + text + "'", x.text(), want == -1 ? 0 : -1);
        due.is("tape behind '" + text + "'", x.count(2), want == -1 ? 0 : text.length());
        due.is("sums behind '" + text + "'", x.count(1), want == -1 ? 1 : 0);
    }

    private static void feeding() {
        GoatAbacus x = new GoatAbacus(4);
        due.is("feed of noughts", x.feed(0, 0, 0, 0, 0), 0);
        due.is("feed, noughts left out", x.feed(0x61003500, 0, 0x00780033, 0, 0), 4);
        due.is("fault a5x3", x.fault(), -1);
        due.is("text a5x3", x.text(), 0);
        due.is("step", Due.stepOf(x, 0, 0, 1), 5);
        due.is("step", Due.stepOf(x, 0, 0, 2), 3);
        due.is("high byte", x.feed(0xFF000000, 0, 0, 0, 0), 1);
        due.is("fault at high byte", x.fault(), 0);
        due.is("end(0)", x.end(0), true);
        int d = 0x64646464;
        for (int i = 1; i <= 8; i++) {
            due.is("feed " + i, x.feed(d, d, d, d, d), 20 * i);
        }
        due.is("one too many", x.feed(0, 0, 0, 0, 1), -1);
        due.is("nothing more is fine", x.feed(0, 0, 0, 0, 0), 160);
        due.is("twenty too many", x.feed(d, d, d, d, d), -1);
        due.is("as it was", x.count(2), 160);
        due.is("end(161)", x.end(161), false);
        due.is("end(-1)", x.end(-1), false);
        due.is("end(160)", x.end(160), true);
        due.is("end(159)", x.end(159), true);
        due.is("refused whole", x.feed(0x64640000, 0, 0, 0, 0), -1);
        due.is("count", x.count(2), 159);
        due.is("the last one", x.feed(0, 0x00000064, 0, 0, 0), 160);
        due.is("end(1)", x.end(1), true);
        due.is("text of d", x.text(), 1);
        due.is("letter of d", Due.stepOf(x, 1, 0, 0), 2);
        due.is("its number", Due.stepOf(x, 1, 0, 1), 0);
        due.is("how often", Due.stepOf(x, 1, 0, 2), 1);
    }

    private static void eachNumberCounts() {
        for (int k = 0; k < 5; k++) {
            GoatAbacus x = new GoatAbacus(4);
            Due.feed(x, " ".repeat(158));
            int[] three = new int[5];
            three[k] = 0x20002020;
            due.is("three more by " + k, x.feed(three[0], three[1], three[2], three[3], three[4]), -1);
            three[k] = 0x00200020;
            due.is("two more by " + k, x.feed(three[0], three[1], three[2], three[3], three[4]), 160);
            due.is("a whole tape of blanks", x.fault(), 160);
        }
        GoatAbacus y = new GoatAbacus(4);
        Due.feed(y, " ".repeat(159) + "d");
        due.is("a whole tape", y.fault(), -1);
        GoatAbacus z = new GoatAbacus(4);
        Due.feed(z, " ".repeat(159) + "a");
        due.is("a whole tape, too early", z.fault(), 160);
        GoatAbacus w = new GoatAbacus(4);
        Due.feed(w, " ".repeat(157) + "d x");
        due.is("a whole tape, too early", w.fault(), 160);
    }

    private static void whatIsCutOffIsGone() {
        String[] texts = {"d;d", "a5", "dx2", "a51", "d;a1"};
        int[] keep = {2, 1, 2, 2, 3};
        int[] want = {2, 1, 2, -1, 3};
        for (int i = 0; i < texts.length; i++) {
            GoatAbacus x = new GoatAbacus(4);
            Due.feed(x, texts[i]);
            due.is("end", x.end(keep[i]), true);
            due.is("fault of the first " + keep[i] + " of " + texts[i], x.fault(), want[i]);
        }
    }

    private static void faults() {
        fault("", 0);
        fault("a", 1);
        fault("a5", -1);
        fault("t5", -1);
        fault("t007", -1);
        fault("d5", 1);
        fault("b", 0);
        fault("A5", 0);
        fault("a5;", 3);
        fault("a5;;", 3);
        fault(";a5", 0);
        fault("a123456789", -1);
        fault("a1234567890", 10);
        fault("a12345678 9", 10);
        fault("a1 2", 3);
        fault("a 1", -1);
        fault("a x2", 2);
        fault("a5 x 2 ; h ; z", -1);
        fault(" a5", -1);
        fault("a5 ", -1);
        fault("   ", 3);
        fault("dx", 2);
        fault("dx0", 2);
        fault("dx1", -1);
        fault("dx9", -1);
        fault("dx10", 3);
        fault("dx2x2", 3);
        fault("dx 2 3", 5);
        fault("h;z;d;a1;t1", -1);
        fault("a-1", 1);
        fault("d\t", 1);
        fault("d;d;d;d;d;d;d;d;d;d;d;d", -1);
        fault("d;d;d;d;d;d;d;d;d;d;d;d;", 23);
        fault("d;d;d;d;d;d;d;d;d;d;d;d;d", 23);
        fault("d;d;d;d;d;d;d;d;d;d;d;d ;d", 24);
        fault("d;d;d;d;d;d;d;d;d;d;d;dx2", -1);
        fault("d;d;d;d;d;d;d;d;d;d;d;", 22);
    }

    private static void steps() {
        GoatAbacus x = new GoatAbacus(4);
        due.is("no sum yet", Due.stepOf(x, 0, -1, 0), 1000);
        due.is("sum", Due.sum(x, "a5x3 ; t 0042 x 9;d;h x2;z"), 0);
        due.is("how many", Due.stepOf(x, 0, -1, 0), 5);
        int[][] want = {{0, 5, 3}, {1, 42, 9}, {2, 0, 1}, {3, 0, 2}, {4, 0, 1}};
        for (int step = 0; step < 5; step++) {
            for (int what = 0; what < 3; what++) {
                due.is("step " + step + ", " + what, Due.stepOf(x, 0, step, what), want[step][what]);
            }
        }
        int[][] none = {{0, -1, 1}, {0, -1, -1}, {0, -2, 0}, {0, 5, 0}, {0, 0, 3}, {0, 0, -1}, {1, 0, 0},
            {-1, 0, 0}, {-1, -1, 0}, {6, -1, 0}, {Integer.MAX_VALUE, 0, 0}, {0, Integer.MIN_VALUE, 0}};
        for (int[] n : none) {
            due.is("step " + n[0] + ", " + n[1] + ", " + n[2], Due.stepOf(x, n[0], n[1], n[2]), 1000);
        }
        for (int i = 1; i < 6; i++) {
            due.is("sum " + i, Due.sum(x, "a" + i), i);
            due.is("its number", Due.stepOf(x, i, 0, 1), i);
        }
        due.is("a seventh", Due.sum(x, "a7"), -1);
        due.is("its tape", x.count(2), 2);
        due.is("its fault", x.fault(), -1);
        due.is("sums", x.count(1), 6);
        due.is("the first is as it was", Due.stepOf(x, 0, 1, 1), 42);
    }

    public static void main(String[] args) {
        feeding();
        eachNumberCounts();
        whatIsCutOffIsGone();
        faults();
        steps();
        due.close();
    }
}
