import java.util.List;
import java.util.Random;

/** The class and the Model, side by side, through runs of calls by chance (always the same ones). */
public final class ModelTest {
    private static final Due due = new Due("ModelTest");

    private static int number(Random by) {
        int most = (int) Math.pow(10, 1 + by.nextInt(9));
        int n = by.nextInt(most);
        // Noughts and nines make the edges.
        StringBuilder t = new StringBuilder(Integer.toString(n));
        for (int i = 0; i < t.length(); i++) {
            int edge = by.nextInt(6);
            if (edge < 2) {
                t.setCharAt(i, edge == 0 ? '0' : '9');
            }
        }
        return Integer.parseInt(t.toString());
    }

    private static void same(GoatAbacus x, Model m, String when) {
        due.is(when + " number", x.number(), m.s.number());
        due.is(when + " walks", x.told(0), m.s.walks);
        due.is(when + " carries", x.told(1), m.s.carries);
        due.is(when + " minutes", x.told(2), m.s.minutes);
        due.is(when + " over", x.told(3), m.s.over);
        due.is(when + " short", x.told(4), m.s.lack);
        due.is(when + " left", x.told(5), m.s.left);
        due.is(when + " acts", x.told(6), m.acts);
        due.is(when + " undone", x.count(4), m.past.size());
    }

    private static void change(GoatAbacus x, Model m, Random by) {
        int ropes = m.s.digit.length;
        int rope = by.nextInt(ropes);
        boolean is = by.nextBoolean();
        switch (by.nextInt(12)) {
            case 0: case 1: case 2: {
                int n = number(by);
                m.act(is ? 1 : 0, n);
                due.is("add", x.add(n, is), m.acts);
                break;
            }
            case 3: {
                int what = 2 + by.nextInt(3);
                m.act(what, 0);
                due.is("act", x.act(what), m.acts);
                break;
            }
            case 4:
                due.is("undo", x.undo(), m.undo());
                break;
            case 5: {
                int n = by.nextInt(13);
                boolean can = n >= m.s.digit[rope];
                due.is("goats", x.goats(rope, n), can);
                m.s.goats[rope] = can ? n : m.s.goats[rope];
                break;
            }
            case 6: {
                int what = by.nextInt(4);
                int v = what == 0 ? by.nextInt(2) : 1 + by.nextInt(9);
                due.is("set", x.set(what, v), true);
                m.order = what == 0 ? v : m.order;
                m.pace = what == 1 ? v : m.pace;
                m.dog = what == 2 ? v : m.dog;
                m.shout = what == 3 ? v : m.shout;
                if (is && what >= 2) {
                    x.set(what, 0);
                    m.dog = what == 2 ? 0 : m.dog;
                    m.shout = what == 3 ? 0 : m.shout;
                }
                break;
            }
            case 7: case 8: {
                int d = by.nextInt(10);
                int o = (d + 1 + by.nextInt(9)) % 10;
                int p = by.nextInt(60);
                int sum = p - m.echo[d][o];
                for (int e : m.echo[d]) {
                    sum += e;
                }
                due.is("echo", x.echo(d, o, p), sum <= 100);
                m.echo[d][o] = sum <= 100 ? p : m.echo[d][o];
                break;
            }
            case 9:
                due.is("two", x.two(rope, is), true);
                m.two[rope] = is;
                break;
            case 10:
                m.s.x = by.nextLong();
                x.wind(m.s.x);
                break;
            default:
                if (m.harvest.size() < 6 && by.nextInt(4) == 0) {
                    int n = is ? number(by) % 1000 : number(by);
                    m.harvest.add(n);
                    due.is("harvest", x.harvest(n), m.harvest.size());
                }
                break;
        }
    }

    private static void times(GoatAbacus x, Model m, Random by) {
        int n = number(by);
        int rope = by.nextInt(m.s.digit.length);
        int minute = by.nextInt(5) == 0 ? by.nextInt(10000) : by.nextInt(60);
        int[] stands = new int[1];
        int[] rest = m.done(n, rope, minute, stands);
        int last = 0;
        for (int r = 0; r < rest.length; r++) {
            due.is("done", x.done(n, r), rest[r]);
            last = Math.max(last, rest[r]);
        }
        due.is("done", x.done(n, -1), last);
        due.is("standing", x.standing(n, rope, minute), stands[0]);
        int dogs = 1 + by.nextInt(3);
        int low = m.relay(n, dogs, 0);
        int high = m.relay(n, dogs, 1);
        due.is("relay", x.relay(n, dogs, 0), low);
        due.is("relay", x.relay(n, dogs, 1), high);
        due.is("ranked", x.ranked(n, dogs), high < low ? 1 : 0);
        Model.State zero = m.s.copy();
        Model.State one = m.s.copy();
        m.bring(zero, n, false, 0, false);
        m.bring(one, n, false, 1, false);
        due.is("cheaper", x.cheaper(n), one.walks < zero.walks ? 1 : 0);
    }

    private static void likelihoods(GoatAbacus x, Model m, Random by) {
        int n = number(by) % 10000;
        int bell = 2 + by.nextInt(98);
        due.is("miss", x.miss(n, bell), m.miss(n, bell));
        due.is("wrong", x.miss(n, -1), m.miss(n, -1));
        Long[] heard = m.heards(n).keySet().toArray(new Long[0]);
        int other = by.nextBoolean() ? number(by) % 10000 : heard[by.nextInt(heard.length)].intValue();
        due.is("as", x.as(n, other), Model.cut(m.likely(n, other)));
        int p = 2 + by.nextInt(12);
        int safest = 2;
        for (int b = 3; b <= p; b++) {
            safest = m.miss(n, b) < m.miss(n, safest) ? b : safest;
        }
        due.is("safest", x.safest(n, p), safest);
        int guess = -1;
        int confused = 0;
        for (int i = 0; i < m.harvest.size(); i++) {
            if (m.harvest.get(i) >= 100000) {
                return;
            }
        }
        for (int i = 0; i < m.harvest.size(); i++) {
            int h = m.harvest.get(i);
            if (m.likely(h, other).signum() > 0
                    && (guess < 0 || m.likely(h, other).compareTo(m.likely(m.harvest.get(guess), other)) > 0)) {
                guess = i;
            }
            for (int j = 0; j < i; j++) {
                int g = m.harvest.get(j);
                confused += m.likely(h, g).signum() > 0 || m.likely(g, h).signum() > 0 ? 1 : 0;
            }
            due.is("odds", x.odds(i), m.odds(i));
        }
        due.is("guess", x.guess(other), guess);
        due.is("confused", x.confused(), confused);
    }

    private static void proofs(GoatAbacus x, Model m, Random by) {
        int bell = 1 + by.nextInt(99);
        int r = by.nextInt(bell);
        due.is("bell", x.bell(bell), bell == 1 ? -1 : m.seenNumber() % bell);
        List<Integer> astray = m.astray(bell, r);
        due.is("astray", x.astray(bell, r, -1), astray.size());
        for (int i = 0; i <= astray.size(); i++) {
            due.is("astray", x.astray(bell, r, i), i < astray.size() ? astray.get(i) : -1);
        }
        List<Integer> sets = m.sets(m.seenNumber());
        due.is("added", x.added(-1), sets.size());
        for (int i = 0; i <= sets.size(); i++) {
            due.is("added", x.added(i), i < sets.size() ? sets.get(i) : -1);
        }
        due.is("near", x.near(), m.near());
    }

    private static void spans(GoatAbacus x, Model m, Random by) {
        int fogs = by.nextInt(4);
        for (int i = 0; i < fogs; i++) {
            int rope = by.nextInt(m.s.digit.length);
            x.fog(rope, true);
            m.fog[rope] = true;
        }
        int bell = by.nextInt(4) == 0 ? 1 : 1 + by.nextInt(99);
        int r = by.nextInt(bell);
        long[] want = m.span(bell, r);
        for (int what = 0; what < 3; what++) {
            due.is("span", x.span(bell, r, what), want[what]);
        }
        for (int rope = 0; rope < m.s.digit.length; rope++) {
            due.is("seen", x.rope(rope, 2), m.fog[rope] ? -2 : m.seen(rope));
            x.fog(rope, false);
            m.fog[rope] = false;
        }
    }

    private static void sums(GoatAbacus x, Model m, Random by) {
        if (x.count(1) == 6) {
            return;
        }
        StringBuilder text = new StringBuilder();
        int steps = 1 + by.nextInt(6);
        Model.State tried = m.s.copy();
        Model.State empty = new Model.State(m.s.digit.length);
        tried.walks = tried.carries = tried.minutes = tried.over = tried.lack = 0;
        for (int i = 0; i < steps; i++) {
            int letter = by.nextInt(5);
            int n = letter < 2 ? number(by) : 0;
            int often = by.nextBoolean() ? 1 : 1 + by.nextInt(9);
            text.append(i == 0 ? "" : ";").append("atdhz".charAt(letter)).append(letter < 2 ? "" + n : "");
            text.append(often == 1 ? "" : "x" + often);
            for (int k = 0; k < often; k++) {
                m.perform(tried, letter, n, false);
                m.perform(empty, letter, n, false);
            }
        }
        int sum = Due.sum(x, text.toString());
        due.is("sum " + text, sum, x.count(1) - 1);
        long[] want = {tried.number(), tried.walks, tried.carries, tried.minutes, tried.lack, tried.over};
        for (int what = 0; what < 6; what++) {
            due.is("tried " + text, x.tried(sum, what), want[what]);
        }
        int herd = 0;
        for (int r = 0; r < m.s.digit.length; r++) {
            due.is("needs " + text, x.needs(sum, r), tried.need[r]);
            herd += empty.need[r];
        }
        due.is("herd " + text, x.herd(sum), herd);
        if (by.nextBoolean()) {
            run(x, m, sum);
        }
    }

    private static void run(GoatAbacus x, Model m, int sum) {
        int steps = x.step(sum, -1, 0);
        for (int step = 0; step < steps; step++) {
            int often = x.step(sum, step, 2);
            for (int time = 0; time < often; time++) {
                m.act(x.step(sum, step, 0), x.step(sum, step, 1));
            }
        }
        due.is("run", x.run(sum), m.acts);
        same(x, m, "behind a run");
        for (int back = 0; back < 3; back++) {
            due.is("undo", x.undo(), m.undo());
        }
        same(x, m, "behind a run, three undone");
    }

    private static void orders(GoatAbacus x, Model m) {
        if (m.harvest.isEmpty()) {
            return;
        }
        int[] want = m.fewest();
        int[] told = new int[m.harvest.size()];
        for (int i = 0; i < told.length; i++) {
            told[i] = i;
        }
        due.is("as told", x.fewest(-1), m.walksOf(told));
        for (int what = 0; what < want.length; what++) {
            due.is("fewest " + m.harvest, x.fewest(what), want[what]);
        }
    }

    private static void runs() {
        for (int seed = 0; seed < 3000; seed++) {
            Random by = new Random(seed);
            int ropes = 2 + by.nextInt(11);
            GoatAbacus x = new GoatAbacus(ropes);
            Model m = new Model(ropes);
            int first = due.asked();
            // An object has 512 calls; not each of them is an answer here, and one round may take two hundred.
            for (int i = 0; i < 80 && due.asked() - first < 200; i++) {
                change(x, m, by);
                due.is("number", x.number(), m.s.number());
                if (by.nextInt(6) == 0) {
                    same(x, m, "run " + seed);
                }
                switch (by.nextInt(10)) {
                    case 0: times(x, m, by); break;
                    case 1: proofs(x, m, by); break;
                    case 2: spans(x, m, by); break;
                    case 3: sums(x, m, by); break;
                    case 4:
                        if (i % 4 == 0) {
                            likelihoods(x, m, by);
                        }
                        break;
                    default: break;
                }
            }
            if (m.harvest.size() < 6 || seed % 10 == 0) {
                orders(x, m);
            }
        }
    }

    private static void tables() {
        GoatAbacus x = new GoatAbacus(2);
        int[][] makes = Model.makes();
        for (int n = 999; n >= 0; n--) {
            x = n % 100 == 0 ? new GoatAbacus(2) : x;
            due.is("make " + n, x.make(n, 0), makes[n][0]);
            due.is("make " + n, x.make(n, 1), makes[n][1]);
        }
        for (int weights = 1; weights < 512; weights += weights < 64 ? 1 : 5) {
            x = new GoatAbacus(2);
            for (int n = 1; n <= 9; n++) {
                long[] want = Model.all(weights, n);
                due.is("all " + weights, x.all(weights, n, 0), want[0]);
                due.is("all " + weights, x.all(weights, n, 1), want[1]);
            }
        }
        Random by = new Random(1);
        for (int i = 0; i < 3000; i++) {
            int a = i < 100 ? i / 10 : by.nextInt(10000);
            int b = i < 100 ? i % 10 : by.nextInt(10000);
            x = i % 40 == 0 ? new GoatAbacus(2) : x;
            long[][] want = {Model.product(a, b, 0), Model.product(a, b, 1), Model.product(a, b, 2)};
            int rival = 0;
            for (int way = 0; way < 3; way++) {
                rival = want[way][0] < want[rival][0] ? way : rival;
                for (int what = 0; what < 3; what++) {
                    due.is("product " + a + ", " + b, x.product(a, b, way, what), want[way][what]);
                }
            }
            due.is("rival " + a + ", " + b, x.rival(a, b), rival);
        }
    }

    public static void main(String[] args) {
        runs();
        tables();
        due.close();
    }
}
