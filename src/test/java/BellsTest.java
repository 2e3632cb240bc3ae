/** Promises 19 to 24, 36 and 38: TWO, FOG, BELLS and what they miss, SPAN, ASTRAY, AS, SAFEST. */
public final class BellsTest {
    private static final Due due = new Due("BellsTest");

    private static void bells() {
        GoatAbacus x = new GoatAbacus(3);
        x.add(392, false);
        for (int m = 2; m <= 99; m++) {
            due.is("bell(" + m + ")", x.bell(m), 392 % m);
        }
        x.two(1, true);
        due.is("10 tens are seen", x.bell(99), (300 + 100 + 2) % 99);
        due.is("bell(1)", x.bell(1), -1);
        due.is("bell(100)", x.bell(100), -1);
        due.is("bell(-1)", x.bell(-1), -1);
        x.fog(0, true);
        due.is("fog", x.bell(9), -2);
        due.is("fog, no such m", x.bell(1), -1);
    }

    private static void fogs() {
        GoatAbacus x = new GoatAbacus(7);
        due.is("no rope", x.fog(7, true), false);
        due.is("no rope", x.fog(-1, false), false);
        for (int rope = 0; rope < 5; rope++) {
            due.is("fog", x.fog(rope, true), true);
        }
        due.is("a sixth", x.fog(5, true), false);
        due.is("not in fog", x.rope(5, 2), 0);
        due.is("one of the five again", x.fog(4, true), true);
        due.is("no fog where none is", x.fog(6, false), true);
        due.is("one less", x.fog(0, false), true);
        due.is("now", x.fog(5, true), true);
        due.is("hidden", x.rope(5, 2), -2);
        due.is("the digit is told", x.rope(5, 0), 0);
        due.is("ropes in fog are not seen", x.rope(0, 2), 0);
    }

    private static void spans() {
        GoatAbacus x = new GoatAbacus(4);
        x.add(5307, false);
        due.is("no fog: itself", x.span(1, 0, 0), 1);
        due.is("no fog: itself", x.span(1, 0, 1), 5307);
        due.is("no fog: itself", x.span(1, 0, 2), 5307);
        due.is("no fog, another rest", x.span(10, 6, 0), 0);
        due.is("no fog, another rest", x.span(10, 6, 1), -1);
        due.is("no fog, another rest", x.span(10, 6, 2), -1);
        x.fog(0, true);
        x.fog(3, true);
        due.is("all", x.span(1, 0, 0), 100);
        due.is("least", x.span(1, 0, 1), 300);
        due.is("greatest", x.span(1, 0, 2), 9309);
        // 300 and 1000 a and b, modulo 99: 3 and 10 a and b; to be 0: 10 a and b is 96.
        due.is("modulo 99", x.span(99, 0, 0), 1);
        due.is("modulo 99", x.span(99, 0, 1), 9306);
        due.is("modulo 99, none", x.span(99, 1, 0), 1);
        due.is("none", x.span(2, 2, 0), -1);
        x.two(2, true);
        due.is("two is seen", x.span(1, 0, 1), 400);
        due.is("m 0", x.span(0, 0, 0), -1);
        due.is("m 100", x.span(100, 0, 0), -1);
        due.is("r -1", x.span(5, -1, 0), -1);
        due.is("r 5", x.span(5, 5, 0), -1);
        due.is("what 3", x.span(5, 0, 3), -1);
        due.is("what -1", x.span(5, 0, -1), -1);
        x.add(600, false);
        due.is("9 that are seen as 10", x.span(1, 0, 1), 1000);
        due.is("9 that are seen as 10", x.span(1, 0, 2), 10009);
        GoatAbacus y = new GoatAbacus(12);
        for (int rope = 7; rope < 12; rope++) {
            y.fog(rope, true);
        }
        y.add(5, false);
        due.is("five in fog", y.span(1, 0, 0), 100000);
        due.is("five in fog", y.span(1, 0, 2), 999990000005L);
        due.is("modulo 9", y.span(9, 5, 0), 11112);
        due.is("modulo 9", y.span(9, 5, 2), 999990000005L);
        due.is("modulo 9", y.span(9, 6, 1), 10000005L);
        due.is("modulo 99", y.span(99, 0, 1) % 99, 0);
    }

    private static void astrays() {
        GoatAbacus x = new GoatAbacus(2);
        x.add(41, false);
        // Modulo 7 it is 6; to be 0: 42, 49 (ones 2, 9), 21, 91 (tens 2, 9).
        due.is("how many", x.astray(7, 0, -1), 4);
        int[] want = {2, 9, 12, 19};
        for (int i = 0; i < 4; i++) {
            due.is("astray", x.astray(7, 0, i), want[i]);
        }
        due.is("no such i", x.astray(7, 0, 4), -1);
        due.is("i below NONE", x.astray(7, 0, -2), -1);
        // What is there already is no other one.
        due.is("as it is", x.astray(10, 1, -1), 9);
        due.is("as it is", x.astray(10, 1, 0), 10);
        due.is("as it is", x.astray(10, 1, 4), 15);
        x.two(1, true);
        // 51 is seen; 4 tens are another one then.
        due.is("seen", x.astray(10, 1, 4), 14);
        due.is("seen", x.astray(10, 1, 5), 16);
        // Modulo 1 every other digit will do: 1 and 5 are those that are seen.
        due.is("m 1", x.astray(1, 0, -1), 18);
        due.is("m 1", x.astray(1, 0, 0), 0);
        due.is("m 1", x.astray(1, 0, 1), 2);
        due.is("m 1", x.astray(1, 0, 13), 14);
        due.is("m 1", x.astray(1, 0, 14), 16);
        due.is("m 1", x.astray(1, 0, 18), -1);
        due.is("m 1, r", x.astray(1, 1, -1), -1);
        due.is("m 0", x.astray(0, 0, -1), -1);
        due.is("m below 0", x.astray(-7, 0, -1), -1);
        due.is("m 99", x.astray(99, 51, -1), 0);
        due.is("m 100", x.astray(100, 0, -1), -1);
        due.is("r", x.astray(7, 7, -1), -1);
        due.is("r", x.astray(7, -1, -1), -1);
        x.fog(0, true);
        due.is("fog", x.astray(7, 0, -1), -2);
        due.is("fog", x.astray(7, 0, 99), -2);
        due.is("fog, i", x.astray(7, 0, -2), -1);
        due.is("fog, m 1", x.astray(1, 0, 0), -2);
        due.is("fog, m", x.astray(0, 0, 0), -1);
    }

    private static void misses() {
        GoatAbacus x = new GoatAbacus(2);
        due.is("no echo", x.miss(123456789, -1), 0);
        due.is("no echo", x.miss(123456789, 2), 0);
        due.is("no echo", x.as(123456789, 123456789), 1000000);
        x.echo(1, 3, 10);
        x.echo(1, 2, 20);
        // 11: as 13, 31 or 33 (even apart): 7 x 10 x 2 and 100; as 12, 21, 22, 23, 32 else.
        due.is("wrong", x.miss(11, -1), 510000);
        // 11 modulo 2: ones 1 or 3 (80), tens any (100), less itself (49 hundredths).
        due.is("miss by 2", x.miss(11, 2), 310000);
        // modulo 10: tens else: 70 x 30.
        due.is("miss by 10", x.miss(11, 10), 210000);
        // modulo 3: as 23 or 32: 20 x 10 each.
        due.is("miss by 3", x.miss(11, 3), 40000);
        // modulo 9: at most 4 more in all.
        due.is("miss by 9", x.miss(11, 9), 0);
        due.is("cut", x.miss(1111, -1), 759900);
        due.is("as", x.as(11, 32), 20000);
        due.is("as itself", x.as(111, 111), 343000);
        due.is("cut", x.as(1111111, 3333333), 0);
        due.is("cut", x.as(1111, 3323), 200);
        due.is("more digits", x.as(11, 111), 0);
        due.is("nothing is shouted for 0", x.as(0, 0), 1000000);
        due.is("nothing is shouted for 0", x.miss(0, -1), 0);
        due.is("0 is not 1", x.as(0, 1), 0);
        x.echo(1, 0, 70);
        due.is("fewer digits", x.as(11, 3), 70000);
        due.is("as 0", x.as(11, 0), 490000);
        due.is("never itself", x.as(11, 11), 0);
        due.is("wrong for sure", x.miss(111111111, -1), 1000000);
        due.is("2 ropes are no end", x.miss(111000000, -1), 1000000);
        due.is("miss: number", x.miss(-1, 2), -1);
        due.is("miss: number", x.miss(1000000000, 2), -1);
        due.is("miss: m", x.miss(1, 100), -1);
        due.is("miss: m", x.miss(1, 0), -1);
        due.is("miss: m", x.miss(1, -2), -1);
        due.is("as: number", x.as(-1, 1), -1);
        due.is("as: number", x.as(1000000000, 1), -1);
        due.is("as: other", x.as(1, -1), -1);
        due.is("as: other", x.as(1, 1000000000), -1);
    }

    private static void safest() {
        GoatAbacus x = new GoatAbacus(2);
        due.is("nothing is missed", x.safest(5, 99), 2);
        x.echo(5, 7, 10);
        x.echo(5, 8, 10);
        x.echo(5, 9, 10);
        // By 2: as 7, 9; by 3: as 8; by 4: as 9; by 5: none.
        due.is("to 2", x.safest(5, 2), 2);
        due.is("to 3", x.safest(5, 3), 3);
        due.is("to 4", x.safest(5, 4), 3);
        due.is("to 5", x.safest(5, 5), 5);
        due.is("to 99", x.safest(5, 99), 5);
        due.is("to 1", x.safest(5, 1), -1);
        due.is("to 100", x.safest(5, 100), -1);
        due.is("number", x.safest(-1, 5), -1);
        due.is("number", x.safest(1000000000, 5), -1);
    }

    public static void main(String[] args) {
        bells();
        fogs();
        spans();
        astrays();
        misses();
        safest();
        due.close();
    }
}
