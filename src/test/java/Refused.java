/** A refused call: what it answers, and that nothing is changed: a twin that never heard it answers alike behind it. */
final class Refused {
    /** The run of calls ahead of it. */
    interface Way {
        void go(GoatAbacus x);
    }

    interface Call {
        long of(GoatAbacus x);
    }

    interface Test {
        boolean of(GoatAbacus x);
    }

    private Refused() {
    }

    static void by(Due due, String told, int ropes, Way way, Call call, long want) {
        for (int part = 0; part < Look.PARTS; part++) {
            GoatAbacus asked = new GoatAbacus(ropes);
            GoatAbacus twin = new GoatAbacus(ropes);
            way.go(asked);
            way.go(twin);
            due.is(told, call.of(asked), want);
            long[] behind = Look.at(asked, part);
            long[] without = Look.at(twin, part);
            due.is(told + " changes nothing, part " + part, java.util.Arrays.mismatch(behind, without), -1);
        }
    }

    /** On six ropes: new, with some of all, with as much as there may be. */
    static void everywhere(Due due, String told, Call call, long want) {
        by(due, told + " (new)", 6, x -> { }, call, want);
        by(due, told + " (some)", 6, Refused::some, call, want);
        by(due, told + " (full)", 6, Refused::full, call, want);
    }

    static void isFalse(Due due, String told, Test test) {
        everywhere(due, told, x -> test.of(x) ? 1 : 0, 0);
    }

    /** Some of all: sums, a tape, echoes, a harvest, settings, acts, an image, goats that are two; no fog. */
    static void some(GoatAbacus x) {
        Due.sum(x, "a95x2;t7;d");
        Due.sum(x, "h;z;a123456789x3");
        x.echo(1, 7, 40);
        x.echo(0, 3, 20);
        x.echo(9, 8, 60);
        x.wind(20261118L);
        x.set(1, 2);
        x.set(2, 3);
        x.set(3, 4);
        x.harvest(95);
        x.harvest(7);
        x.harvest(190);
        x.goats(1, 11);
        x.goats(3, 4);
        x.two(2, true);
        x.add(190195, false);
        x.act(3);
        x.image();
        x.act(2);
        x.add(91119, true);
        x.set(0, 1);
        Due.feed(x, "a5;d x2");
    }

    /** As much as there may be: six sums, 160 bytes, eight of the harvest, five ropes in fog, 12 goats, 40 acts. */
    static void full(GoatAbacus x) {
        Due.sum(x, "a999999999x9;d;d;d;d;d;d;d;d;d;d;dx9");
        for (int i = 1; i < 6; i++) {
            Due.sum(x, "t" + 1234 * i + ";a7x" + i);
        }
        for (int i = 0; i < 8; i++) {
            x.harvest(i < 4 ? 125 * i : 999999999 - i);
        }
        for (int digit = 0; digit < 9; digit++) {
            x.echo(digit, 9, 100);
        }
        for (int rope = 0; rope < x.count(0); rope++) {
            x.goats(rope, 12);
        }
        for (int i = 0; i < 41; i++) {
            x.add(1 + 2345 * i, i % 3 == 2);
        }
        x.image();
        x.add(31, false);
        for (int rope = 1; rope <= 5; rope++) {
            x.fog(rope, true);
        }
        x.set(0, 1);
        x.set(1, 9);
        x.set(2, 9);
        x.set(3, 9);
        Due.feed(x, " ".repeat(157) + "dx7");
    }
}
