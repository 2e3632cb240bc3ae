/** Promises 32 to 34, 40 and 41: what is tried on the side, cheaper orders, kids, herds. */
public final class SideTest {
    private static final Due due = new Due("SideTest");

    private static void tried() {
        GoatAbacus x = new GoatAbacus(3);
        x.add(95, false);
        x.goats(2, 0);
        x.set(1, 2);
        x.set(2, 3);
        x.echo(7, 0, 100);
        due.is("sum", Due.sum(x, "a7;t2000;hx2"), 0);
        // 95 and 7: 5 to 2 (3), 9 to 0 (9), 0 for 1 (short 1): 2; t2000 is lost; 2 to 1, 1 to 0.
        long[] want = {0, 3 + 9 + 1 + 1, 2, 14 * 2 + 2 * 3, 1, 1};
        for (int what = 0; what < 6; what++) {
            due.is("tried(0, " + what + ")", x.tried(0, what), want[what]);
        }
        due.is("needs", x.needs(0, 0), 5);
        due.is("needs", x.needs(0, 1), 9);
        due.is("needs, ahead of what lacks", x.needs(0, 2), 1);
        // From an empty valley: 7, halved 3, halved 1.
        due.is("herd", x.herd(0), 7);
        due.is("nothing has changed", x.number(), 95);
        due.is("nothing has changed", x.told(0), 14);
        due.is("nothing has changed", x.told(3), 0);
        due.is("nothing has changed", x.told(4), 0);
        due.is("no such what", x.tried(0, 6), -1);
        due.is("no such what", x.tried(0, -1), -1);
        due.is("no such sum", x.tried(1, 0), -1);
        due.is("no such sum", x.tried(-1, 0), -1);
        due.is("no such sum", x.needs(1, 0), -1);
        due.is("no such rope", x.needs(0, 3), -1);
        due.is("no such rope", x.needs(0, -1), -1);
        due.is("no such sum", x.herd(1), -1);
        due.is("no such sum", x.herd(-1), -1);
    }

    private static void noDrawOnTheSide() {
        GoatAbacus x = new GoatAbacus(6);
        GoatAbacus y = new GoatAbacus(6);
        x.echo(1, 9, 50);
        y.echo(1, 9, 50);
        Due.sum(x, "a111111x9");
        due.is("as told", x.tried(0, 0), 999999);
        x.cheaper(111111);
        x.done(111111, 0);
        x.relay(111111, 1, 0);
        x.add(111111, false);
        y.add(111111, false);
        due.is("the same draws", x.number(), y.number());
    }

    private static void herds() {
        GoatAbacus x = new GoatAbacus(3);
        due.is("sum", Due.sum(x, "a99;t1;z;a100"), 0);
        due.is("herd", x.herd(0), 19);
        due.is("sum", Due.sum(x, "a95;a55"), 1);
        // ORDER 0: rope 1 has 9, 0, 5; ORDER 1: 9, 4, 5. Rope 0: 5. Rope 2: 1.
        due.is("herd", x.herd(1), 15);
        due.is("sum", Due.sum(x, "a8;a99"), 2);
        // ORDER 0: 8, 7; rope 1: 1, then 0; ORDER 1: rope 1: 9, then 0; rope 2: 1 in both.
        due.is("herd by ORDER 0", x.herd(2), 8 + 1 + 1);
        x.set(0, 1);
        due.is("herd by ORDER 1", x.herd(2), 8 + 9 + 1);
        x.goats(0, 0);
        x.add(11, false);
        due.is("whatever goats there are", x.herd(2), 18);
        // 10 stands: rope 1 has 1, then 0; rope 0 should have 8, then 9, and has none.
        due.is("needs by ORDER 1", x.needs(2, 1), 1);
        due.is("needs, more than goats", x.needs(2, 0), 9);
        due.is("short", x.tried(2, 4), 17);
    }

    private static void cheaper() {
        GoatAbacus x = new GoatAbacus(3);
        due.is("as cheap", x.cheaper(123), 0);
        x.add(95, false);
        // ORDER 0: 20 walks, ORDER 1: 12.
        due.is("ORDER 1", x.cheaper(55), 1);
        x.set(0, 1);
        due.is("whatever ORDER is set", x.cheaper(55), 1);
        due.is("of both as cheap", x.cheaper(1), 0);
        x.act(4);
        x.add(85, false);
        // ORDER 0: 5, 8 to 9 (1), 9 to 0 (9), 1; ORDER 1: 8 to 9, 5, 9 to 0, 1.
        due.is("as cheap", x.cheaper(15), 0);
        x.act(4);
        x.add(5, false);
        // ORDER 0: 5, 0 to 1, 1 to 0 and 1: 8; ORDER 1: 9, 5, 9 to 0 and 1: 24.
        due.is("ORDER 0", x.cheaper(95), 0);
        due.is("out of bounds", x.cheaper(-1), -1);
        due.is("out of bounds", x.cheaper(1000000000), -1);
        due.is("nothing has changed", x.number(), 5);
    }

    private static void kids() {
        GoatAbacus x = new GoatAbacus(3);
        due.is("some", x.kids(5), 29);
        due.is("rope 0", x.rope(0, 1), 10);
        due.is("rope 1", x.rope(1, 1), 9);
        due.is("rope 2", x.rope(2, 1), 10);
        due.is("0", x.kids(0), -1);
        due.is("8", x.kids(8), -1);
        due.is("9", x.kids(9), -1);
        due.is("-1", x.kids(-1), -1);
        due.is("least", x.kids(Integer.MIN_VALUE), -1);
        due.is("all", x.kids(7), 32);
        due.is("all", x.kids(7), 35);
        due.is("one has 12", x.kids(7), -1);
        due.is("one has 12", x.kids(3), -1);
        due.is("not that one", x.rope(1, 1), 11);
        due.is("the other", x.kids(2), 36);
        x.goats(0, 0);
        due.is("fewer again", x.kids(1), 25);
        GoatAbacus y = new GoatAbacus(12);
        due.is("twelve ropes", y.kids(4095), 120);
        due.is("twelve ropes", y.kids(4096), -1);
    }

    public static void main(String[] args) {
        tried();
        noDrawOnTheSide();
        herds();
        cheaper();
        kids();
        due.close();
    }
}
