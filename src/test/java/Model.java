import java.math.BigDecimal;
import java.math.BigInteger;
import java.math.RoundingMode;
import java.util.ArrayList;
import java.util.Arrays;
import java.util.List;
import java.util.Map;
import java.util.TreeMap;

/** The document once more, as plainly and slowly as can be, to compare the class with. */
final class Model {
    /** All that an ACT changes, and goats. */
    static final class State {
        int[] digit;
        int[] goats;
        long x;
        int walks, carries, minutes, over, lack, left;
        int[] need;

        State(int ropes) {
            digit = new int[ropes];
            goats = new int[ropes];
            Arrays.fill(goats, 9);
            need = new int[ropes];
        }

        State copy() {
            State s = new State(digit.length);
            s.digit = digit.clone();
            s.goats = goats.clone();
            s.need = digit.clone();
            s.x = x;
            s.walks = walks;
            s.carries = carries;
            s.minutes = minutes;
            s.over = over;
            s.lack = lack;
            s.left = left;
            return s;
        }

        void to(int rope, int should) {
            need[rope] = Math.max(need[rope], should);
            int now = should;
            while (now > goats[rope]) {
                now--;
                lack++;
            }
            walks += Math.abs(now - digit[rope]);
            digit[rope] = now;
        }

        void on(int rope, int k) {
            if (rope == digit.length) {
                over++;
                return;
            }
            int sum = digit[rope] + k;
            to(rope, sum % 10);
            if (sum >= 10) {
                carries++;
                on(rope + 1, 1);
            }
        }

        void off(int rope, int k) {
            if (rope == digit.length) {
                over++;
                return;
            }
            int less = digit[rope] - k;
            to(rope, less < 0 ? less + 10 : less);
            if (less < 0) {
                carries++;
                off(rope + 1, 1);
            }
        }

        void twice() {
            int[] ahead = digit.clone();
            for (int r = digit.length - 1; r >= 0; r--) {
                on(r, ahead[r]);
            }
        }

        void half() {
            int rest = 0;
            for (int r = digit.length - 1; r >= 0; r--) {
                int v = 10 * rest + digit[r];
                to(r, v / 2);
                rest = v % 2;
            }
            left = rest;
        }

        void none() {
            for (int r = 0; r < digit.length; r++) {
                to(r, 0);
            }
        }

        long number() {
            long n = 0;
            for (int r = digit.length - 1; r >= 0; r--) {
                n = 10 * n + digit[r];
            }
            return n;
        }
    }

    State s;
    final boolean[] two;
    final boolean[] fog;
    final int[][] echo = new int[10][10];
    int order;
    int pace = 1;
    int dog = 2;
    int shout = 1;
    final List<Integer> harvest = new ArrayList<>();
    final List<State> past = new ArrayList<>();
    int acts;

    Model(int ropes) {
        s = new State(ropes);
        two = new boolean[ropes];
        fog = new boolean[ropes];
    }

    static int digit(long n, int place) {
        String t = Long.toString(n);
        return place < t.length() ? t.charAt(t.length() - 1 - place) - '0' : 0;
    }

    static int length(long n) {
        return n == 0 ? 0 : Long.toString(n).length();
    }

    int hear(int d, State at) {
        at.x = at.x * 6364136223846793005L + 1442695040888963407L;
        int drawn = (int) ((at.x >>> 33) % 100);
        int sum = 0;
        for (int o = 0; o < 10; o++) {
            if (o != d) {
                sum += echo[d][o];
                if (sum > drawn) {
                    return o;
                }
            }
        }
        return d;
    }

    void bring(State at, int number, boolean take, int byOrder, boolean heard) {
        int ropes = at.digit.length;
        int top = -1;
        boolean lost = false;
        for (int i = 0; i < 9; i++) {
            if (digit(number, i) != 0) {
                if (i < ropes) {
                    top = i;
                } else {
                    lost = true;
                }
            }
        }
        at.over += lost ? 1 : 0;
        for (int j = 0; j <= top; j++) {
            int i = byOrder == 0 ? j : top - j;
            int d = heard ? hear(digit(number, i), at) : digit(number, i);
            if (take) {
                at.off(i, d);
            } else {
                at.on(i, d);
            }
        }
    }

    void perform(State at, int letter, int number, boolean heard) {
        int w = at.walks;
        int c = at.carries;
        if (letter == 0 || letter == 1) {
            bring(at, number, letter == 1, order, heard);
        } else if (letter == 2) {
            at.twice();
        } else if (letter == 3) {
            at.half();
        } else {
            at.none();
        }
        at.minutes += (at.walks - w) * pace + (at.carries - c) * dog;
    }

    void act(int letter, int number) {
        past.add(s.copy());
        if (past.size() > 40) {
            past.remove(0);
        }
        perform(s, letter, number, true);
        acts++;
    }

    int undo() {
        if (past.isEmpty()) {
            return -1;
        }
        int[] goats = s.goats;
        s = past.remove(past.size() - 1);
        s.goats = goats;
        return --acts;
    }

    int seen(int rope) {
        return s.digit[rope] > 0 && two[rope] ? s.digit[rope] + 1 : s.digit[rope];
    }

    long seenNumber() {
        long n = 0;
        for (int r = s.digit.length - 1; r >= 0; r--) {
            n = 10 * n + seen(r);
        }
        return n;
    }

    /** By minutes, with dogs without end: {rest of each rope ..}, and how rope stands at the end of a minute. */
    int[] done(int number, int lookRope, int lookMinute, int[] stands) {
        int ropes = s.digit.length;
        int[] rest = new int[ropes];
        int[] digit = s.digit.clone();
        int[] from = new int[ropes];
        int[] to = new int[ropes];
        int[] begun = new int[ropes];
        int[] end = new int[ropes];
        boolean[] busy = new boolean[ropes];
        boolean[] carry = new boolean[ropes];
        boolean[] ownDone = new boolean[ropes];
        List<int[]> carries = new ArrayList<>();
        int top = length(number % pow(ropes));
        for (int t = 0; t < 3000; t++) {
            for (int r = 0; r < ropes; r++) {
                for (int again = 0; again < 5; again++) {
                    if (busy[r] && end[r] == t) {
                        busy[r] = false;
                        digit[r] = to[r];
                        if (carry[r]) {
                            carries.add(new int[] {r + 1, t + dog});
                        }
                    }
                    if (busy[r]) {
                        break;
                    }
                    int k = -1;
                    if (r < top && !ownDone[r] && shout * r <= t) {
                        k = digit(number, r);
                        ownDone[r] = true;
                    } else {
                        for (int[] c : carries) {
                            if (c[0] == r && c[1] <= t) {
                                k = 1;
                                carries.remove(c);
                                break;
                            }
                        }
                    }
                    if (k < 0) {
                        break;
                    }
                    int sum = digit[r] + k;
                    carry[r] = sum > 9;
                    from[r] = digit[r];
                    to[r] = Math.min(sum % 10, s.goats[r]);
                    begun[r] = t;
                    end[r] = t + Math.abs(to[r] - from[r]) * pace;
                    busy[r] = true;
                    rest[r] = end[r];
                }
            }
            if (t == lookMinute) {
                int now = digit[lookRope];
                if (busy[lookRope]) {
                    int gone = (t - begun[lookRope] + 1) / pace;
                    now = from[lookRope] + (to[lookRope] > from[lookRope] ? gone : -gone);
                }
                stands[0] = now;
            }
        }
        if (lookMinute >= 3000) {
            stands[0] = digit[lookRope];
        }
        return rest;
    }

    static long pow(int n) {
        long p = 1;
        for (int i = 0; i < n; i++) {
            p *= 10;
        }
        return p;
    }

    int relay(int number, int dogs, int rank) {
        int ropes = s.digit.length;
        int[] digit = s.digit.clone();
        int[] to = new int[ropes];
        int[] end = new int[ropes];
        boolean[] carry = new boolean[ropes];
        boolean[] begun = new boolean[ropes];
        int[] came = new int[ropes + 1];
        int[] wait = new int[ropes];
        Arrays.fill(end, -1);
        int top = length(number % pow(ropes));
        List<int[]> away = new ArrayList<>();
        int free = dogs;
        for (int t = 0;; t++) {
            for (int i = away.size() - 1; i >= 0; i--) {
                if (away.get(i)[0] == t) {
                    came[away.remove(i)[1]]++;
                    free++;
                }
            }
            came[ropes] = 0;
            for (int r = 0; r < ropes; r++) {
                if (end[r] == t) {
                    end[r] = -1;
                    digit[r] = to[r];
                    wait[r] += carry[r] ? 1 : 0;
                }
                while (end[r] < 0) {
                    int k;
                    if (r < top && !begun[r] && r * shout <= t) {
                        begun[r] = true;
                        k = digit(number, r);
                    } else if (came[r] > 0) {
                        came[r]--;
                        k = 1;
                    } else {
                        break;
                    }
                    carry[r] = digit[r] + k > 9;
                    to[r] = Math.min((digit[r] + k) % 10, s.goats[r]);
                    int walks = Math.abs(to[r] - digit[r]);
                    if (walks == 0) {
                        digit[r] = to[r];
                        wait[r] += carry[r] ? 1 : 0;
                    } else {
                        end[r] = t + walks * pace;
                    }
                }
            }
            for (int j = 0; j < ropes; j++) {
                int r = rank == 0 ? j : ropes - 1 - j;
                while (wait[r] > 0 && free > 0) {
                    wait[r]--;
                    free--;
                    away.add(new int[] {dog == 0 ? t + 1 : t + dog, r + 1});
                }
            }
            boolean rest = away.isEmpty();
            for (int r = 0; r < ropes; r++) {
                rest &= end[r] < 0 && wait[r] == 0 && came[r] == 0 && (r >= top || begun[r]);
            }
            if (rest) {
                return t;
            }
        }
    }

    /** All that a number can be HEARD as, each in parts of 100 to its length. */
    Map<Long, BigInteger> heards(int number) {
        Map<Long, BigInteger> all = new TreeMap<>();
        all.put(0L, BigInteger.ONE);
        for (int i = 0; i < length(number); i++) {
            Map<Long, BigInteger> next = new TreeMap<>();
            int d = digit(number, i);
            for (int o = 0; o < 10; o++) {
                int p = o == d ? 100 - Arrays.stream(echo[d]).sum() : echo[d][o];
                if (p > 0) {
                    for (Map.Entry<Long, BigInteger> e : all.entrySet()) {
                        next.merge(e.getKey() + o * pow(i), e.getValue().multiply(BigInteger.valueOf(p)), BigInteger::add);
                    }
                }
            }
            all = next;
        }
        return all;
    }

    BigDecimal likely(int number, long other) {
        BigInteger part = heards(number).getOrDefault(other, BigInteger.ZERO);
        return new BigDecimal(part).movePointLeft(2 * length(number));
    }

    static int cut(BigDecimal p) {
        return p.movePointRight(6).setScale(0, RoundingMode.DOWN).intValueExact();
    }

    int miss(int number, int m) {
        BigInteger sum = BigInteger.ZERO;
        for (Map.Entry<Long, BigInteger> e : heards(number).entrySet()) {
            if (e.getKey() != number && (m == -1 || e.getKey() % m == number % m)) {
                sum = sum.add(e.getValue());
            }
        }
        return cut(new BigDecimal(sum).movePointLeft(2 * length(number)));
    }

    int odds(int k) {
        BigDecimal all = BigDecimal.ZERO;
        for (int n : harvest) {
            all = all.add(likely(n, seenNumber()));
        }
        if (all.signum() == 0) {
            return 0;
        }
        return likely(harvest.get(k), seenNumber()).movePointRight(6).divide(all, 0, RoundingMode.DOWN).intValueExact();
    }

    long[] span(int m, int r) {
        List<Integer> hidden = new ArrayList<>();
        long base = 0;
        for (int i = 0; i < s.digit.length; i++) {
            if (fog[i]) {
                hidden.add(i);
            } else {
                base += seen(i) * pow(i);
            }
        }
        long[] answer = {0, -1, -1};
        for (int c = 0; c < pow(hidden.size()); c++) {
            long n = base;
            for (int j = 0; j < hidden.size(); j++) {
                n += digit(c, j) * pow(hidden.get(j));
            }
            if (n % m == r) {
                answer[0]++;
                answer[1] = answer[1] == -1 ? n : Math.min(answer[1], n);
                answer[2] = Math.max(answer[2], n);
            }
        }
        return answer;
    }

    List<Integer> astray(int m, int r) {
        List<Integer> found = new ArrayList<>();
        for (int i = 0; i < s.digit.length; i++) {
            for (int d = 0; d < 10; d++) {
                long n = 0;
                for (int j = 0; j < s.digit.length; j++) {
                    n += (j == i ? d : seen(j)) * pow(j);
                }
                if (d != seen(i) && n % m == r) {
                    found.add(10 * i + d);
                }
            }
        }
        return found;
    }

    int walksOf(int[] places) {
        State v = new State(s.digit.length);
        for (int p : places) {
            bring(v, harvest.get(p), false, 0, false);
        }
        return v.walks;
    }

    private int best;
    private int[] bestOrder;

    int[] fewest() {
        best = Integer.MAX_VALUE;
        permute(new int[harvest.size()], 0, new boolean[harvest.size()]);
        int[] answer = new int[harvest.size() + 1];
        answer[0] = best;
        System.arraycopy(bestOrder, 0, answer, 1, bestOrder.length);
        return answer;
    }

    private void permute(int[] places, int n, boolean[] used) {
        if (n == places.length) {
            int walks = walksOf(places);
            if (walks < best) {
                best = walks;
                bestOrder = places.clone();
            }
            return;
        }
        for (int p = 0; p < places.length; p++) {
            if (!used[p]) {
                used[p] = true;
                places[n] = p;
                permute(places, n + 1, used);
                used[p] = false;
            }
        }
    }

    List<Integer> sets(long whole) {
        List<Integer> found = new ArrayList<>();
        for (int set = 0; set < 1 << harvest.size(); set++) {
            long sum = 0;
            for (int i = 0; i < harvest.size(); i++) {
                sum += (set >> i & 1) * (long) harvest.get(i);
            }
            if (sum == whole) {
                found.add(set);
            }
        }
        return found;
    }

    int near() {
        int pairs = 0;
        for (int i = 0; i < s.digit.length; i++) {
            for (int by = -1; by <= 1; by += 2) {
                if (seen(i) + by >= 0 && seen(i) + by <= 9) {
                    pairs += sets(seenNumber() + by * pow(i)).size();
                }
            }
        }
        return pairs;
    }

    static long[] product(int a, int b, int way) {
        Model m = new Model(9);
        long often = 0;
        String t = way == 2 ? Integer.toBinaryString(b) : Integer.toString(b);
        if (way == 0) {
            t = new StringBuilder(t).reverse().toString();
        }
        for (int i = 0; b != 0 && i < t.length(); i++) {
            if (way == 2) {
                m.s.twice();
                often++;
            }
            int place = way == 2 ? 0 : way == 0 ? i : t.length() - 1 - i;
            for (int j = 0; j < t.charAt(i) - '0'; j++) {
                m.bring(m.s, (int) (a * pow(place)), false, 0, false);
                often++;
            }
        }
        return new long[] {m.s.walks, often, m.s.number()};
    }

    /** {how many, which}, or {-1, -1}. */
    static long[] all(int weights, int n) {
        for (int total = 1; total <= 9; total++) {
            int[] counts = new int[10];
            long which = herd(weights, n, 1, total, counts);
            if (which >= 0) {
                return new long[] {total, which};
            }
        }
        return new long[] {-1, -1};
    }

    private static long herd(int weights, int n, int weight, int left, int[] counts) {
        if (weight == 10) {
            boolean[] can = new boolean[200];
            can[0] = true;
            for (int w = 1; w <= 9; w++) {
                for (int c = 0; c < counts[w]; c++) {
                    for (int v = 199; v >= w; v--) {
                        can[v] |= can[v - w];
                    }
                }
            }
            boolean whole = left == 0;
            for (int v = 1; v <= n; v++) {
                whole &= can[v];
            }
            long code = 0;
            for (int w = 9; w >= 1; w--) {
                code = 10 * code + counts[w];
            }
            return whole ? code : -1;
        }
        for (int c = 0; c <= ((weights >> weight - 1 & 1) == 1 ? left : 0); c++) {
            counts[weight] = c;
            long code = herd(weights, n, weight + 1, left - c, counts);
            if (code >= 0) {
                return code;
            }
        }
        counts[weight] = 0;
        return -1;
    }

    /** For 0 .. 999 {WALKS, ACTS}: goes on until nothing gets better. */
    static int[][] makes() {
        int[][] cost = new int[1000][];
        cost[0] = new int[] {0, 0};
        Model m = new Model(3);
        for (boolean better = true; better;) {
            better = false;
            for (int n = 0; n < 1000; n++) {
                for (int e = 0; cost[n] != null && e <= 27; e++) {
                    int by = e == 27 ? n : (e % 9 + 1) * (int) pow(e / 9);
                    if (n + by > 999) {
                        continue;
                    }
                    m.s.walks = 0;
                    for (int r = 0; r < 3; r++) {
                        m.s.digit[r] = digit(n, r);
                    }
                    if (e == 27) {
                        m.s.twice();
                    } else {
                        m.bring(m.s, by, false, 0, false);
                    }
                    int w = cost[n][0] + m.s.walks;
                    int a = cost[n][1] + 1;
                    int[] old = cost[n + by];
                    if (old == null || w < old[0] || (w == old[0] && a < old[1])) {
                        cost[n + by] = new int[] {w, a};
                        better = true;
                    }
                }
            }
        }
        return cost;
    }
}
