/** Boundary cases of promises 2 to 6: the TAPE, its FAULT, SUMS and their STEPS. */
public final class BoundsOfTapeTest {
    private static final Due due = new Due("BoundsOfTapeTest");
    private static final int LEAST = Integer.MIN_VALUE;
    private static final int MOST = Integer.MAX_VALUE;
    private static final String TWELVE = "d;d;d;d;d;d;d;d;d;d;d;d";

    private static void fault(String text, int want) {
        GoatAbacus x = new GoatAbacus(4);
        due.is("bytes of '" + text + "'", Due.feed(x, text), text.length());
        due.is("fault of '" + text + "'", x.fault(), want);
        due.is("fault again of '" + text + "'", x.fault(), want);
        due.is("still there: '" + text + "'", x.count(2), text.length());
        due.is("text of '" + text + "'", x.text(), want == -1 ? 0 : -1);
        due.is("tape behind '" + text + "'", x.count(2), want == -1 ? 0 : text.length());
        due.is("sums behind '" + text + "'", x.count(1), want == -1 ? 1 : 0);
    }

    /** Promise 2: "Twenty bytes more come to the TAPE .. NONE: more than 160." */
    private static void feeding() {
        int four = 0x20202020;
        GoatAbacus x = new GoatAbacus(2);
        for (int times = 1; times <= 8; times++) {
            due.is("feed", x.feed(four, four, four, four, four), 20 * times);
        }
        due.is("160 and 20", x.feed(four, four, four, four, four), -1);
        due.is("160 and 1, the last byte", x.feed(0, 0, 0, 0, 1), -1);
        due.is("160 and 1, the first byte", x.feed(0x64000000, 0, 0, 0, 0), -1);
        due.is("160 and none", x.feed(0, 0, 0, 0, 0), 160);
        due.is("160 still", x.count(2), 160);
        due.is("all of them blanks", x.fault(), 160);
        x.end(141);
        due.is("141 and 20", x.feed(four, four, four, four, four), -1);
        due.is("141 still", x.count(2), 141);
        due.is("141 and 19", x.feed(four, four, four, four, 0x20200020), 160);
        x.end(140);
        due.is("140 and 20", x.feed(four, four, four, four, 0x20202064), 160);
        due.is("d at the end of 160", x.fault(), -1);
        due.is("text", x.text(), 0);
        due.is("empty then", x.count(2), 0);
        due.is("from empty", x.feed(0, 0, 0x64, 0, 0), 1);
    }

    /** "(.. bytes of 0 are left out)": nothing else is, and what is refused is so as a whole. */
    private static void refusedWhole() {
        for (int number = 0; number < 5; number++) {
            for (int shift = 0; shift <= 24; shift += 8) {
                int[] five = new int[5];
                five[number] = 'd' << shift;
                GoatAbacus x = new GoatAbacus(2);
                Due.feed(x, " ".repeat(159));
                due.is("the 160th", x.feed(five[0], five[1], five[2], five[3], five[4]), 160);
                due.is("it is d", x.fault(), -1);
                due.is("a 161st", x.feed(five[0], five[1], five[2], five[3], five[4]), -1);
                due.is("one d still", x.fault(), -1);
                x.end(159);
                // Two more to 159: the first of them would still have room.
                int other = (number + 2) % 5;
                five[other] = 'd' << 24 - shift;
                due.is("159 and 2", x.feed(five[0], five[1], five[2], five[3], five[4]), -1);
                due.is("neither", x.count(2), 159);
                due.is("blanks alone", x.fault(), 159);
            }
        }
        Refused.by(due, "feed, more than 160", 6, Refused::full, x -> x.feed(0, 0, 0, 0, 0x64), -1);
        Refused.by(due, "feed, more than 160", 6, x -> {
            Refused.some(x);
            Due.feed(x, ";t1".repeat(46));
        }, x -> x.feed(0x3b643b64, 0x3b643b64, 0x3b643b64, 0x3b643b64, 0x3b643b64), -1);
    }

    /** "(of each number the highest first ..)". */
    private static void highestFirst() {
        GoatAbacus x = new GoatAbacus(2);
        due.is("t12;t345", x.feed(0x7431323b, 0x74333435, 0, 0, 0), 8);
        x.text();
        due.is("12", x.step(0, 0, 1), 12);
        due.is("345", x.step(0, 1, 1), 345);
        due.is("all five, noughts between", x.feed(0x00610031, 0x32000033, 0x00000034, 0x35000000, 0x00363738), 9);
        x.text();
        due.is("12345678", x.step(1, 0, 1), 12345678);
        due.is("bytes above 127", x.feed(0xe4f6fcdf, -1, LEAST, MOST, 0x80), 14);
        due.is("no sum goes on at them", x.fault(), 0);
    }

    /** Promise 3: "The TAPE has its first n bytes alone. False: n." */
    private static void ends() {
        GoatAbacus x = new GoatAbacus(2);
        due.is("end(0) of none", x.end(0), true);
        due.is("end(1) of none", x.end(1), false);
        due.is("end(-1) of none", x.end(-1), false);
        due.is("none still", x.count(2), 0);
        Due.feed(x, "a12;d;z");
        due.is("one more than there are", x.end(8), false);
        due.is("seven still", x.count(2), 7);
        due.is("as many as there are", x.end(7), true);
        due.is("whole still", x.fault(), -1);
        due.is("one less", x.end(6), true);
        due.is("too early", x.fault(), 6);
        due.is("the seventh is gone", x.end(7), false);
        due.is("below 0", x.end(-1), false);
        due.is("least", x.end(LEAST), false);
        due.is("most", x.end(MOST), false);
        due.is("six still", x.count(2), 6);
        due.is("end(2)", x.end(2), true);
        due.is("from there on", Due.feed(x, "9"), 3);
        due.is("a19", x.text(), 0);
        due.is("19", x.step(0, 0, 1), 19);
        Due.feed(x, "d");
        due.is("none", x.end(0), true);
        due.is("empty", x.fault(), 0);
        Refused.isFalse(due, "end(-1)", y -> y.end(-1));
        Refused.isFalse(due, "end(161)", y -> y.end(161));
        Refused.isFalse(due, "end(count and 1)", y -> y.end(y.count(2) + 1));
    }

    /** "the length, if it ends too early". */
    private static void tooEarly() {
        String[] early = {"", " ", "a", "t", "a ", "a1;", "a1; ", "a1x", "a1 x", "a1x ", "dx", "d ;", "d;a", "h;z;dx", "zx  "};
        for (String text : early) {
            fault(text, text.length());
        }
        fault(" ".repeat(160), 160);
        fault(" ".repeat(159) + "a", 160);
        fault("d" + " ".repeat(158) + "x", 160);
        fault("d" + " ".repeat(158) + ";", 160);
        fault("a" + " ".repeat(159), 160);
        fault("a" + " ".repeat(158) + "1", -1);
        fault("d" + " ".repeat(159), -1);
        fault("dx" + " ".repeat(157) + "9", -1);
    }

    /** "a or t and a number (1 to 9 digits)"; "a tenth digit .. wrong". */
    private static void numbers() {
        for (String letter : new String[] {"a", "t"}) {
            fault(letter, 1);
            fault(letter + ";d", 1);
            fault(letter + "x2", 1);
            fault(letter + "0", -1);
            fault(letter + "9", -1);
            fault(letter + "999999999", -1);
            fault(letter + "9999999999", 10);
            fault(letter + "000000000", -1);
            fault(letter + "0000000000", 10);
            fault(letter + "0000000001;d", 10);
            fault(letter + " 1234567890", 11);
            fault(letter + "123456789;" + letter + "1234567890", 21);
            fault(letter + "123456789 0", 11);
            fault(letter + "1 2", 3);
            fault(letter + "/", 1);
            fault(letter + ":", 1);
            fault(letter + "1/", 2);
            fault(letter + "1:", 2);
            fault(letter + "-1", 1);
        }
        for (String letter : new String[] {"d", "h", "z"}) {
            fault(letter, -1);
            fault(letter + "1", 1);
            fault(letter + "0", 1);
            fault(letter + " 5", 2);
        }
        GoatAbacus x = new GoatAbacus(9);
        Due.sum(x, "a999999999;t000000000;a000000001;t1");
        long[] want = {999999999, 0, 1, 1};
        for (int step = 0; step < 4; step++) {
            due.is("its number", x.step(0, step, 1), want[step]);
        }
        due.is("run", x.run(0), 4);
        due.is("number", x.number(), 999999999);
    }

    /** "perhaps x and how often (one digit, 1 .. 9)"; "0 behind x .. wrong". */
    private static void howOften() {
        for (String ahead : new String[] {"a7", "t123456789", "d", "h", "z"}) {
            int at = ahead.length();
            fault(ahead + "x0", at + 1);
            fault(ahead + "x 0", at + 2);
            fault(ahead + "x1", -1);
            fault(ahead + "x9", -1);
            fault(ahead + "x10", at + 2);
            fault(ahead + "x11", at + 2);
            fault(ahead + "x1 1", at + 3);
            fault(ahead + "x01", at + 1);
            fault(ahead + "x:", at + 1);
            fault(ahead + "x/", at + 1);
            fault(ahead + "xx", at + 1);
            fault(ahead + "x;", at + 1);
            fault(ahead + "x2x2", at + 2);
            fault(ahead + "X2", at);
        }
        GoatAbacus x = new GoatAbacus(2);
        Due.sum(x, "a1;a1x1;a1x9;d;dx1;dx9");
        int[] want = {1, 1, 9, 1, 1, 9};
        for (int step = 0; step < 6; step++) {
            due.is("how often", x.step(0, step, 2), want[step]);
        }
    }

    /** "STEPS with ; between (12 at most)"; "the ; ahead of a thirteenth STEP .. wrong". */
    private static void howManySteps() {
        fault(TWELVE, -1);
        fault(TWELVE + " ", -1);
        fault(TWELVE + ";", 23);
        fault(TWELVE + ";d", 23);
        fault(TWELVE + " ;d", 24);
        fault(TWELVE + "x2;d", 25);
        fault(TWELVE + "x;", 24);
        fault(TWELVE.substring(2) + ";", 22);
        fault(TWELVE.substring(2), -1);
        fault(";", 0);
        fault(";d", 0);
        fault("d;;d", 2);
        fault("dd", 1);
        fault("d d", 2);
        fault("a1a1", 2);
        GoatAbacus x = new GoatAbacus(2);
        Due.sum(x, TWELVE);
        Due.sum(x, "z");
        due.is("twelve steps", x.step(0, -1, 0), 12);
        due.is("one step", x.step(1, -1, 0), 1);
        due.is("the twelfth", x.step(0, 11, 0), 2);
        due.is("run", x.run(0), 12);
    }

    /** "Blanks (32) may stand between all signs, not within numbers." */
    private static void blanks() {
        fault("  a  5  x  3  ;  d  x  2  ;  z  ", -1);
        fault("a5 ;d", -1);
        fault("a5; d", -1);
        fault("a 5", -1);
        fault("a5 5", 3);
        fault("a5 5;d", 3);
        for (int sign = 1; sign < 256; sign++) {
            boolean letter = "dhz".indexOf(sign) >= 0;
            boolean goesOn = letter || sign == ' ' || sign == 'a' || sign == 't';
            fault("" + (char) sign, letter ? -1 : goesOn ? 1 : 0);
            boolean behindNumber = sign == ' ' || sign == 'x' || sign == ';' || sign >= '0' && sign <= '9';
            fault("a5" + (char) sign, sign == 'x' || sign == ';' ? 3 : behindNumber ? -1 : 2);
            fault("dx" + (char) sign, sign >= '1' && sign <= '9' ? -1 : sign == ' ' ? 3 : 2);
            fault("t" + (char) sign + "1", sign == ' ' || sign >= '0' && sign <= '9' ? -1 : 1);
        }
    }

    /** Promise 5: "NONE: a FAULT, there are six."; "SUMS (6 at most)". */
    private static void howManySums() {
        GoatAbacus x = new GoatAbacus(2);
        due.is("the empty tape", x.text(), -1);
        due.is("no sum", x.count(1), 0);
        for (int sum = 0; sum < 6; sum++) {
            Due.feed(x, "a" + (sum + 1) + ";");
            due.is("a fault", x.text(), -1);
            due.is("its tape stays", x.count(2), 3);
            due.is("no sum more", x.count(1), sum);
            x.end(2);
            due.is("the next sum", x.text(), sum);
            due.is("empty then", x.count(2), 0);
            due.is("one more", x.count(1), sum + 1);
        }
        Due.feed(x, "a7");
        due.is("a seventh", x.text(), -1);
        due.is("its tape stays", x.count(2), 2);
        due.is("no fault", x.fault(), -1);
        due.is("six", x.count(1), 6);
        due.is("no seventh to run", x.run(6), -1);
        for (int sum = 0; sum < 6; sum++) {
            due.is("as told", x.step(sum, 0, 1), sum + 1);
        }
        Refused.by(due, "text, empty", 6, y -> { }, GoatAbacus::text, -1);
        Refused.by(due, "text, a fault", 6, y -> {
            Refused.some(y);
            Due.feed(y, "x");
        }, GoatAbacus::text, -1);
        Refused.by(due, "text, there are six", 6, Refused::full, GoatAbacus::text, -1);
    }

    /** Promise 6: "how many STEPS (step NONE, what 0). NoSuchElementException: no such ones." */
    private static void noSuchStep() {
        int[][] none = {{0, -1, 1}, {0, -1, 2}, {0, -1, -1}, {0, -2, 0}, {0, LEAST, 0}, {0, MOST, 0}, {0, 12, 0}, {0, 0, -1},
            {0, 0, 3}, {0, 0, LEAST}, {0, 0, MOST}, {-1, 0, 0}, {-1, -1, 0}, {6, 0, 0}, {6, -1, 0}, {LEAST, 0, 0}, {MOST, 0, 0}};
        for (int[] n : none) {
            String told = "step(" + n[0] + ", " + n[1] + ", " + n[2] + ")";
            Refused.everywhere(due, told, x -> Due.stepOf(x, n[0], n[1], n[2]), 1000);
        }
        GoatAbacus x = new GoatAbacus(2);
        due.is("no sum yet", Due.stepOf(x, 0, -1, 0), 1000);
        due.is("no sum yet", Due.stepOf(x, 0, 0, 0), 1000);
        Due.sum(x, "a5x3;h");
        due.is("the first", Due.stepOf(x, 0, 0, 0), 0);
        due.is("the last", Due.stepOf(x, 0, 1, 0), 3);
        due.is("behind the last", Due.stepOf(x, 0, 2, 0), 1000);
        due.is("the next sum", Due.stepOf(x, 1, 0, 0), 1000);
        due.is("the first what", Due.stepOf(x, 0, 0, 0), 0);
        due.is("the last what", Due.stepOf(x, 0, 0, 2), 3);
        due.is("without a number", Due.stepOf(x, 0, 1, 1), 0);
        due.is("once", Due.stepOf(x, 0, 1, 2), 1);
        Due.sum(x, "d;h");
        due.is("without a number, where one stood ahead", Due.stepOf(x, 1, 0, 1), 0);
        due.is("once, where it was three times", Due.stepOf(x, 1, 0, 2), 1);
        due.is("the other sum is as it was", Due.stepOf(x, 0, 0, 1), 5);
    }

    public static void main(String[] args) {
        feeding();
        refusedWhole();
        highestFirst();
        ends();
        tooEarly();
        numbers();
        howOften();
        howManySteps();
        blanks();
        howManySums();
        noSuchStep();
        due.close();
    }
}
