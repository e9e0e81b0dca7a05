import java.util.ArrayList;
import java.util.List;
import java.util.Random;

/**
 * Runs of random calls on ForkTown and on a model that was written by the document alone, in the
 * slowest and plainest way: each answer must be the same.
 */
public final class ModelTest {
    private static int wrong = 0;
    private static long calls = 0;

    public static void main(String[] args) {
        int runs = args.length > 0 ? Integer.parseInt(args[0]) : 800;
        int from = args.length > 1 ? Integer.parseInt(args[1]) : 0;
        for (int run = from; run < from + runs && wrong < 5; run++) {
            if (run % 5 == 0) {
                new Run(run).goByPlans();
            } else if (run % 5 == 1) {
                new Run(run).goByCrowds();
            } else {
                new Run(run).go();
            }
        }
        System.out.println(calls + " calls on both, " + wrong + " answers are not as due");
        if (wrong != 0) {
            System.exit(1);
        }
    }

    // ---------------------------------------------------------------- the model

    static final class Refused extends RuntimeException {
        private static final long serialVersionUID = 1L;
    }

    static final class H {
        int number, one, parent = -2, born, weight = 4096, place, road = -2, left, waits, coins, into = -2;
        boolean lives = true, came;
        Integer[] facts = new Integer[16];

        H copy() {
            H h = new H();
            h.number = number; h.one = one; h.parent = parent; h.born = born; h.weight = weight;
            h.place = place; h.road = road; h.left = left; h.waits = waits; h.coins = coins;
            h.into = into; h.lives = lives; h.came = came; h.facts = facts.clone();
            return h;
        }

        boolean at() {
            return lives && road == -2;
        }

        int knownFacts() {
            int n = 0;
            for (Integer f : facts) {
                n += f == null ? 0 : 1;
            }
            return n;
        }
    }

    static final class State {
        List<H> all = new ArrayList<>();
        int hour = 0;
        int x = 1;
        int parted, merged, died, forgotten;
        // of each hour, of each half, where it was as that hour began
        List<int[]> began = new ArrayList<>();

        State copy() {
            State s = new State();
            for (H h : all) {
                s.all.add(h.copy());
            }
            s.hour = hour; s.x = x; s.parted = parted; s.merged = merged; s.died = died; s.forgotten = forgotten;
            s.began.addAll(began);
            return s;
        }

        List<H> living(int one) {
            List<H> some = new ArrayList<>();
            for (H h : all) {
                if (h.lives && h.one == one) {
                    some.add(h);
                }
            }
            return some;
        }

        int livingAll() {
            int n = 0;
            for (H h : all) {
                n += h.lives ? 1 : 0;
            }
            return n;
        }

        int[] positions() {
            int[] row = new int[all.size()];
            for (H h : all) {
                row[h.number] = h.at() ? h.place : -2;
            }
            return row;
        }
    }

    /** A law's text, judged by what may follow what, and asked by splitting it. */
    static final class Text {
        final List<Character> letters = new ArrayList<>();
        final List<String> worths = new ArrayList<>();
        final List<String> conditions = new ArrayList<>();

        static int judge(String t) {
            StringBuilder open = new StringBuilder();
            int clauses = 0;
            int digits = 0;
            boolean compared = false;
            // L clause letter, F factor, P piece, O behind an operand, G behind a piece, C behind a clause
            char state = 'L';
            for (int at = 0; at <= t.length(); at++) {
                char c = at < t.length() ? t.charAt(at) : '\uffff';
                boolean digit = c >= '0' && c <= '9';
                boolean letter = "hijzpnmokrqlfy".indexOf(c) >= 0;
                char last = open.length() == 0 ? ' ' : open.charAt(open.length() - 1);
                if (state == 'O' && digits > 0 && digit) {
                    digits++;
                    if (digits == 6) {
                        return -2000 - at;
                    }
                    continue;
                }
                if (state == 'L') {
                    if ("cdbwxe".indexOf(c) < 0) {
                        return -1000 - at;
                    }
                    clauses++;
                    if (clauses == 17) {
                        return -4000 - at;
                    }
                    if (c == 'e') {
                        at++;
                        if (at >= t.length() || t.charAt(at) != '(') {
                            return -1000 - at;
                        }
                        open.append('{');
                        state = 'P';
                        compared = false;
                    } else {
                        state = 'F';
                    }
                } else if (state == 'F' || state == 'P') {
                    boolean bracket = c == '[' || state == 'P' && (c == '(' || c == '!');
                    if (!bracket && !digit && !letter) {
                        return -1000 - at;
                    }
                    if (bracket) {
                        if (open.length() == 6) {
                            return -5000 - at;
                        }
                        open.append(c);
                        state = c == '[' ? 'F' : 'P';
                    } else {
                        digits = digit ? 1 : 0;
                        state = 'O';
                    }
                } else if (state == 'O') {
                    digits = 0;
                    if (c != '\uffff' && "+-*/%".indexOf(c) >= 0) {
                        state = 'F';
                    } else if (last == '[') {
                        if (c != ']') {
                            return -1000 - at;
                        }
                        open.setLength(open.length() - 1);
                    } else if (last == ' ') {
                        if (c != '(') {
                            return -1000 - at;
                        }
                        open.append('{');
                        state = 'P';
                        compared = false;
                    } else if (!compared) {
                        if (c != '<' && c != '>' && c != '=') {
                            return -1000 - at;
                        }
                        compared = true;
                        state = 'F';
                    } else {
                        state = 'G';
                        at--;
                    }
                } else if (state == 'G') {
                    if (c != '&' && c != '|' && c != ')') {
                        return -1000 - at;
                    }
                    dropNots(open);
                    compared = false;
                    if (c == ')') {
                        boolean whole = open.charAt(open.length() - 1) == '{';
                        open.setLength(open.length() - 1);
                        state = whole ? 'C' : 'G';
                        if (!whole) {
                            dropNots(open);
                        }
                    } else {
                        state = 'P';
                    }
                } else {
                    if (at == t.length()) {
                        return clauses;
                    }
                    if (c != ';') {
                        return -1000 - at;
                    }
                    state = 'L';
                }
            }
            throw new IllegalStateException("not judged: " + t);
        }

        private static void dropNots(StringBuilder open) {
            while (open.length() > 0 && open.charAt(open.length() - 1) == '!') {
                open.setLength(open.length() - 1);
            }
        }

        Text(String t) {
            for (String clause : t.isEmpty() ? new String[0] : t.split(";")) {
                int paren = clause.indexOf('(');
                letters.add(clause.charAt(0));
                worths.add(clause.substring(1, paren));
                conditions.add(clause.substring(paren + 1, clause.length() - 1));
            }
        }

        /** Where a sign of some stands outside of all brackets, from the right or the left; -1: nowhere. */
        private static int outside(String t, String signs, boolean lastOne) {
            int depth = 0;
            int found = -1;
            for (int i = 0; i < t.length(); i++) {
                char c = t.charAt(i);
                if (c == '(' || c == '[') {
                    depth++;
                } else if (c == ')' || c == ']') {
                    depth--;
                } else if (depth == 0 && signs.indexOf(c) >= 0) {
                    found = i;
                    if (!lastOne) {
                        return i;
                    }
                }
            }
            return found;
        }

        static boolean holds(String c, int[] v) {
            int i = outside(c, "|", false);
            if (i >= 0) {
                return holds(c.substring(0, i), v) || holds(c.substring(i + 1), v);
            }
            i = outside(c, "&", false);
            if (i >= 0) {
                return holds(c.substring(0, i), v) && holds(c.substring(i + 1), v);
            }
            if (c.charAt(0) == '!') {
                return !holds(c.substring(1), v);
            }
            if (c.charAt(0) == '(') {
                return holds(c.substring(1, c.length() - 1), v);
            }
            i = outside(c, "<>=", false);
            int a = worth(c.substring(0, i), v);
            int b = worth(c.substring(i + 1), v);
            return c.charAt(i) == '<' ? a < b : c.charAt(i) == '>' ? a > b : a == b;
        }

        static int worth(String e, int[] v) {
            int i = outside(e, "+-", true);
            if (i < 0) {
                i = outside(e, "*/%", true);
            }
            if (i >= 0) {
                int a = worth(e.substring(0, i), v);
                int b = worth(e.substring(i + 1), v);
                switch (e.charAt(i)) {
                    case '+': return a + b;
                    case '-': return a - b;
                    case '*': return a * b;
                    default:
                        if (b == 0) {
                            throw new Refused();
                        }
                        return e.charAt(i) == '/' ? a / b : a % b;
                }
            }
            if (e.charAt(0) == '[') {
                return worth(e.substring(1, e.length() - 1), v);
            }
            return Character.isDigit(e.charAt(0)) ? Integer.parseInt(e) : v[e.charAt(0)];
        }

        int ask(char letter, int bound, int[] v) {
            for (int i = 0; i < letters.size(); i++) {
                if (letters.get(i) != letter) {
                    continue;
                }
                boolean holds;
                try {
                    holds = holds(conditions.get(i), v);
                } catch (Refused r) {
                    holds = false;
                }
                if (holds) {
                    try {
                        int e = letter == 'e' ? 1 : worth(worths.get(i), v);
                        return e < 0 ? 0 : e > bound ? bound : e;
                    } catch (Refused r) {
                        return 0;
                    }
                }
            }
            return 0;
        }
    }

    static final class Model {
        int[][] roads = new int[32][];
        int[][] notices = new int[16][];
        State now = new State();
        State kept = null;
        Text law = new Text("");
        List<Integer> tape = new ArrayList<>();

        static boolean in(int v, int low, int high) {
            return v >= low && v <= high;
        }

        boolean been(int j) {
            return in(j, 0, now.all.size() - 1);
        }

        H living(int j) {
            return been(j) && now.all.get(j).lives ? now.all.get(j) : null;
        }

        int[] values(State s, H h) {
            int[] v = new int[128];
            v['h'] = s.hour;
            v['i'] = h.one;
            v['j'] = h.number;
            v['z'] = h.weight;
            v['p'] = h.road == -2 ? h.place : 0;
            v['n'] = s.living(h.one).size();
            v['m'] = h.knownFacts();
            v['o'] = h.coins;
            v['k'] = s.hour - h.born;
            return v;
        }

        int glad(State s, H h, int r) {
            int[] v = values(s, h);
            v['r'] = r;
            v['q'] = roads[r][1];
            v['l'] = roads[r][2];
            return law.ask('c', 99, v);
        }

        boolean elderBelieved(State s, H elder, H other, int f) {
            int[] v = values(s, elder);
            v['f'] = f;
            v['y'] = other.number;
            return law.ask('e', 1, v) == 1;
        }

        void merge(State s, H a, H b) {
            Integer[] facts = new Integer[16];
            for (int f = 0; f < 16; f++) {
                if (a.facts[f] == null || b.facts[f] == null) {
                    facts[f] = a.facts[f] == null ? b.facts[f] : a.facts[f];
                } else if (a.facts[f].intValue() == b.facts[f].intValue() || elderBelieved(s, a, b, f)) {
                    facts[f] = a.facts[f];
                } else {
                    s.forgotten++;
                }
            }
            a.facts = facts;
            a.weight += b.weight;
            a.coins = Math.min(99999, a.coins + b.coins);
            a.waits = Math.max(a.waits, b.waits);
            a.came |= b.came;
            b.lives = false;
            b.into = a.number;
            s.merged++;
        }

        /** One hour; plan: {the one, the places of doubt, the places come to} or null. */
        void hour(State s, int[] plan) {
            s.began.add(s.positions());
            for (H h : s.all) {
                h.came = false;
                if (h.lives && h.road != -2) {
                    if (--h.left == 0) {
                        h.place = roads[h.road][1];
                        h.road = -2;
                        h.came = true;
                        if (plan != null && plan[0] == h.one) {
                            plan[2] |= 1 << h.place;
                        }
                    }
                } else if (h.lives && h.waits > 0) {
                    h.waits--;
                }
            }
            for (H a : s.all) {
                for (H b : s.all) {
                    if (a.number < b.number && a.at() && b.at() && a.one == b.one && a.place == b.place) {
                        merge(s, a, b);
                    }
                }
            }
            for (H h : s.all) {
                if (h.at() && h.came) {
                    if (notices[h.place] != null) {
                        h.facts[notices[h.place][0]] = notices[h.place][1];
                    }
                    h.coins = Math.min(99999, h.coins + law.ask('b', 999, values(s, h)));
                    h.waits = Math.max(h.waits, law.ask('w', 9, values(s, h)));
                }
            }
            for (H h : s.all) {
                if (plan == null && h.at()) {
                    s.x = (int) ((25173L * s.x + 13849L) % 65536L);
                    if (s.x % 10 < law.ask('x', 10, values(s, h))) {
                        h.lives = false;
                        s.died++;
                        for (H o : s.living(h.one)) {
                            o.waits = Math.min(99, o.waits + 3);
                        }
                    }
                }
            }
            for (H h : new ArrayList<>(s.all)) {
                if (h.at() && h.waits == 0) {
                    goOut(s, h, plan);
                }
            }
            s.hour++;
        }

        void goOut(State s, H h, int[] plan) {
            int first = best(s, h, -1);
            if (first < 0) {
                return;
            }
            int second = best(s, h, first);
            if (second >= 0 && s.all.size() < 64 && h.weight > 1) {
                int d = plan != null && plan[0] == h.one ? (plan[1] >> h.place & 1) * 99 : law.ask('d', 99, values(s, h));
                if (glad(s, h, first) - glad(s, h, second) <= d) {
                    H n = h.copy();
                    n.number = s.all.size();
                    n.parent = h.number;
                    n.born = s.hour;
                    n.weight = h.weight / 2;
                    h.weight = (h.weight + 1) / 2;
                    n.road = second;
                    n.left = roads[second][2];
                    s.all.add(n);
                    s.parted++;
                }
            }
            h.road = first;
            h.left = roads[first][2];
        }

        int best(State s, H h, int but) {
            int best = -1;
            for (int r = 31; r >= 0; r--) {
                if (roads[r] != null && roads[r][0] == h.place && r != but && glad(s, h, r) > 0
                    && (best < 0 || glad(s, h, r) >= glad(s, h, best))) {
                    best = r;
                }
            }
            return best;
        }

        boolean road(int r, int from, int to, int length) {
            if (!in(r, 0, 31) || !in(from, 0, 15) || !in(to, 0, 15) || from == to || !in(length, 1, 9)) {
                return false;
            }
            roads[r] = new int[] {from, to, length};
            return true;
        }

        boolean notice(int place, int fact, boolean so) {
            if (!in(place, 0, 15) || !in(fact, -1, 15)) {
                return false;
            }
            notices[place] = fact == -1 ? null : new int[] {fact, so ? 1 : 0};
            return true;
        }

        int comes(int one, int place) {
            if (!in(one, 0, 3) || !in(place, 0, 15) || !now.living(one).isEmpty() || now.all.size() == 64) {
                return -1;
            }
            H h = new H();
            h.number = now.all.size();
            h.one = one;
            h.born = now.hour;
            h.place = place;
            now.all.add(h);
            return h.number;
        }

        boolean learns(int j, int fact, boolean so) {
            if (living(j) == null || !in(fact, 0, 15)) {
                return false;
            }
            living(j).facts[fact] = so ? 1 : 0;
            return true;
        }

        boolean owes(int j, int coins) {
            if (living(j) == null || !in(coins, 0, 99999)) {
                return false;
            }
            living(j).coins = coins;
            return true;
        }

        int feed(int... words) {
            if (tape.size() + 20 > 260) {
                return -1;
            }
            for (int w : words) {
                tape.add(w >>> 24);
                tape.add(w >>> 16 & 255);
                tape.add(w >>> 8 & 255);
                tape.add(w & 255);
            }
            return tape.size();
        }

        String takeText(int n) {
            StringBuilder b = new StringBuilder();
            for (int i = 0; i < n; i++) {
                b.append((char) tape.get(i).intValue());
            }
            tape.clear();
            return b.toString();
        }

        int law(int n) {
            if (!in(n, 1, 240) || tape.size() < n) {
                return -1;
            }
            String t = takeText(n);
            int judged = Text.judge(t);
            if (judged > 0) {
                law = new Text(t);
            }
            return judged;
        }

        int hours(int n) {
            if (!in(n, 1, 48) || now.hour + n > 999) {
                return -1;
            }
            for (int i = 0; i < n; i++) {
                hour(now, null);
            }
            return now.livingAll();
        }

        int tried(int n, int what) {
            boolean known = in(what, 0, 4) || in(what, 10, 13) || in(what, 20, 23) || in(what, 30, 33);
            if (!in(n, 1, 48) || now.hour + n > 999 || !known) {
                return -1;
            }
            State s = now.copy();
            for (int i = 0; i < n; i++) {
                hour(s, null);
            }
            switch (what) {
                case 0: return s.livingAll();
                case 1: return s.parted - now.parted;
                case 2: return s.merged - now.merged;
                case 3: return s.died - now.died;
                case 4: return s.forgotten - now.forgotten;
                default:
            }
            int sum = 0;
            for (H h : s.living(what % 10)) {
                sum += what < 20 ? 1 : what < 30 ? h.weight : h.coins;
            }
            return sum;
        }

        int half(int j, int what) {
            if (!been(j)) {
                return -1;
            }
            H h = now.all.get(j);
            int[] told = {h.one, h.parent, h.born, h.lives ? 1 : 0, h.weight, h.road == -2 ? h.place : -2, h.road,
                h.road == -2 ? 0 : h.left, h.waits, h.coins, h.into};
            if (in(what, 0, 10)) {
                return told[what];
            }
            if (in(what, 20, 35)) {
                return h.facts[what - 20] == null ? -2 : h.facts[what - 20];
            }
            return -1;
        }

        int gladly(int j, int r) {
            if (living(j) == null || !living(j).at() || !in(r, 0, 31) || roads[r] == null) {
                return -1;
            }
            return roads[r][0] != living(j).place ? -2 : glad(now, living(j), r);
        }

        int halves(int one, int what) {
            if (!in(one, 0, 3) || !in(what, 0, 3)) {
                return -1;
            }
            int bits = 0;
            for (H h : now.living(one)) {
                bits |= h.number / 16 == what ? 1 << h.number % 16 : 0;
            }
            return bits;
        }

        int was(int j, int hour) {
            if (!been(j)) {
                return -1;
            }
            if (!in(hour, Math.max(0, now.hour - 47), now.hour)) {
                return -3;
            }
            H h = now.all.get(j);
            if (h.parent >= 0 && hour <= h.born) {
                return was(h.parent, hour);
            }
            int[] row = hour == now.hour ? now.positions() : now.began.get(hour);
            return j < row.length ? row[j] : -2;
        }

        long byForks(int place, int n) {
            if (!in(place, 0, 15) || !in(n, 0, 60)) {
                return -1;
            }
            // [where he goes][hours left], 0 hours: he is there
            long[][] many = new long[16][10];
            many[place][0] = 1;
            for (int i = 0; i < n; i++) {
                for (int p = 0; p < 16; p++) {
                    many[p][0] += many[p][1];
                    for (int l = 1; l < 9; l++) {
                        many[p][l] = many[p][l + 1];
                    }
                    many[p][9] = 0;
                }
                long[][] next = new long[16][10];
                for (int p = 0; p < 16; p++) {
                    boolean goes = false;
                    for (int[] r : roads) {
                        if (r != null && r[0] == p) {
                            goes = true;
                            next[r[1]][r[2]] += many[p][0];
                        }
                    }
                    next[p][0] += goes ? 0 : many[p][0];
                    for (int l = 1; l < 10; l++) {
                        next[p][l] += many[p][l];
                    }
                }
                many = next;
            }
            long sum = 0;
            for (long[] row : many) {
                for (long m : row) {
                    sum += m;
                }
            }
            return sum;
        }

        int plan(int one, int places, int n, int what) {
            if (!in(one, 0, 3) || !in(places, 0, 65535) || !in(n, 1, 48) || !in(what, 0, 2) || now.hour + n > 999) {
                return -1;
            }
            if (now.living(one).size() != 1 || !now.living(one).get(0).at()) {
                return -1;
            }
            List<Integer> forks = new ArrayList<>();
            for (int p = 0; p < 16 && forks.size() < 8; p++) {
                int many = 0;
                for (int[] r : roads) {
                    many += r != null && r[0] == p ? 1 : 0;
                }
                if (many >= 2) {
                    forks.add(p);
                }
            }
            int[] best = null;
            for (int set = 0; set < 1 << forks.size(); set++) {
                int bits = 0;
                for (int i = 0; i < forks.size(); i++) {
                    bits |= (set >> i & 1) << forks.get(i);
                }
                State s = now.copy();
                int[] plan = {one, bits, 1 << s.living(one).get(0).place};
                int most = 1;
                for (int t = 0; t <= n; t++) {
                    if (t > 0) {
                        hour(s, plan);
                    }
                    most = Math.max(most, s.living(one).size());
                    if ((places & ~plan[2]) == 0 && s.living(one).size() == 1) {
                        if (best == null || t < best[0] || t == best[0] && bits < best[1]) {
                            best = new int[] {t, bits, most};
                        }
                        break;
                    }
                }
            }
            return best == null ? -2 : best[what];
        }

        int joined(int n, int what) {
            if (!in(n, 2, 5) || tape.size() < n) {
                return -1;
            }
            List<H> some = new ArrayList<>();
            List<Integer> told = new ArrayList<>(tape.subList(0, n));
            tape.clear();
            for (int j : told) {
                if (living(j) == null || some.contains(living(j)) || living(j).one != living(told.get(0)).one) {
                    return -2;
                }
                some.add(living(j));
            }
            if (!in(what, -1, n - 1)) {
                return -3;
            }
            some.sort((a, b) -> a.number - b.number);
            Object[] best = {-1, null};
            permute(new ArrayList<>(), some, best);
            @SuppressWarnings("unchecked")
            List<H> row = (List<H>) best[1];
            return what == -1 ? (int) best[0] : row.get(what).number;
        }

        void permute(List<H> row, List<H> rest, Object[] best) {
            if (rest.isEmpty()) {
                Integer[] facts = row.get(0).facts.clone();
                H as = row.get(0);
                for (H next : row.subList(1, row.size())) {
                    boolean groupElder = as.number < next.number;
                    for (int f = 0; f < 16; f++) {
                        if (facts[f] == null) {
                            facts[f] = next.facts[f];
                        } else if (next.facts[f] != null && !facts[f].equals(next.facts[f])) {
                            boolean e = groupElder ? elderBelieved(now, as, next, f) : elderBelieved(now, next, as, f);
                            facts[f] = !e ? null : groupElder ? facts[f] : next.facts[f];
                        }
                    }
                    as = groupElder ? as : next;
                }
                int many = 0;
                for (Integer f : facts) {
                    many += f == null ? 0 : 1;
                }
                if (many > (int) best[0]) {
                    best[0] = many;
                    best[1] = new ArrayList<>(row);
                }
                return;
            }
            for (H h : rest) {
                List<H> longer = new ArrayList<>(row);
                longer.add(h);
                List<H> less = new ArrayList<>(rest);
                less.remove(h);
                permute(longer, less, best);
            }
        }

        int chosen(int j, int k, int what) {
            if (living(j) == null || living(k) == null || j == k || !in(what, 0, 2)) {
                return -1;
            }
            if (!living(j).at() || !living(k).at() || living(j).place != living(k).place) {
                return -1;
            }
            List<int[]> twos = new ArrayList<>();
            for (int a = 0; a < 32; a++) {
                for (int b = 0; b < 32; b++) {
                    boolean good = gain(j, a, b) >= 0 && gain(k, b, a) >= 0;
                    for (int o = 0; good && o < 32; o++) {
                        good = gain(j, o, b) <= gain(j, a, b) && gain(k, o, a) <= gain(k, b, a);
                    }
                    if (good) {
                        twos.add(new int[] {twos.size(), a, b});
                    }
                }
            }
            return what == 0 ? twos.size() : twos.isEmpty() ? -2 : twos.get(0)[what];
        }

        int gain(int j, int own, int other) {
            if (roads[own] == null || roads[own][0] != living(j).place || glad(now, living(j), own) == 0) {
                return -1;
            }
            return own == other ? glad(now, living(j), own) / 2 : glad(now, living(j), own);
        }

        int whoWas(int n, int what) {
            if (!in(n, 1, 8) || !in(what, 0, 1) || tape.size() < 3 * n) {
                return -1;
            }
            List<Integer> told = new ArrayList<>(tape);
            tape.clear();
            int many = 0;
            int first = -2;
            for (int j = now.all.size() - 1; j >= 0; j--) {
                boolean fits = true;
                for (int i = 0; i < n; i++) {
                    fits &= was(j, told.get(3 * i) * 256 + told.get(3 * i + 1)) == told.get(3 * i + 2);
                }
                if (fits) {
                    many++;
                    first = j;
                }
            }
            for (int i = 0; i < n; i++) {
                int hour = told.get(3 * i) * 256 + told.get(3 * i + 1);
                if (told.get(3 * i + 2) > 15 || hour > now.hour || hour < now.hour - 47) {
                    return -2;
                }
            }
            return what == 0 ? many : first;
        }

        /** Whether one can come from a place to another one, some being closed. */
        boolean leads(int from, int to, int shut) {
            boolean[] seen = new boolean[16];
            List<Integer> next = new ArrayList<>();
            next.add(from);
            seen[from] = true;
            while (!next.isEmpty()) {
                int p = next.remove(0);
                for (int[] r : roads) {
                    if (r != null && r[0] == p && !seen[r[1]] && (shut >> r[1] & 1) == 0) {
                        seen[r[1]] = true;
                        next.add(r[1]);
                    }
                }
            }
            return seen[to];
        }

        int meet(int one) {
            if (!in(one, 0, 3)) {
                return -1;
            }
            int bits = 0;
            for (int p = 0; p < 16; p++) {
                boolean all = true;
                for (H h : now.living(one)) {
                    all &= leads(h.at() ? h.place : roads[h.road][1], p, 0);
                }
                bits |= all ? 1 << p : 0;
            }
            return bits;
        }

        int built(int what) {
            if (!in(what, 0, 2)) {
                return -1;
            }
            List<Integer> groups = new ArrayList<>();
            for (int p = 0; p < 16; p++) {
                boolean has = false;
                for (int[] r : roads) {
                    has |= r != null && (r[0] == p || r[1] == p);
                }
                int group = 0;
                boolean comesOut = false;
                for (int q = 0; q < 16; q++) {
                    if (leads(p, q, 0)) {
                        group |= 1 << q;
                        comesOut |= !leads(q, p, 0);
                    }
                }
                if (has && !comesOut && !groups.contains(group)) {
                    groups.add(group);
                }
            }
            return what == 0 ? Math.max(0, groups.size() - 1) : what == 1 ? groups.size()
                : groups.isEmpty() ? 0 : groups.get(0);
        }

        int closed(int from, int to, int what) {
            if (!in(from, 0, 15) || !in(to, 0, 15) || from == to || !in(what, 0, 1)) {
                return -1;
            }
            for (int many = 0; many <= 14; many++) {
                for (int set = 0; set < 65536; set++) {
                    boolean fits = Integer.bitCount(set) == many && (set >> from & 1) == 0 && (set >> to & 1) == 0;
                    if (fits && !leads(from, to, set)) {
                        return what == 0 ? many : set;
                    }
                }
            }
            return -2;
        }

        int history(int j, int n) {
            if (!been(j) || !in(n, 1, 60) || tape.size() < n) {
                return -1;
            }
            String t = takeText(n);
            List<int[]> steps = new ArrayList<>();
            int at = 0;
            while (true) {
                int begin = at;
                while (at < n && at < begin + 2 && Character.isDigit(t.charAt(at))) {
                    at++;
                }
                if (at == begin) {
                    return -1000 - at;
                }
                int place = Integer.parseInt(t.substring(begin, at));
                if (place > 15) {
                    return -3000 - begin;
                }
                if (at == n || t.charAt(at) != '@') {
                    return -1000 - at;
                }
                at++;
                begin = at;
                while (at < n && at < begin + 3 && Character.isDigit(t.charAt(at))) {
                    at++;
                }
                if (at == begin) {
                    return -1000 - at;
                }
                int hour = Integer.parseInt(t.substring(begin, at));
                if (!steps.isEmpty() && steps.get(steps.size() - 1)[1] >= hour) {
                    return -6000 - begin;
                }
                steps.add(new int[] {place, hour});
                if (at == n) {
                    break;
                }
                if (t.charAt(at) != ',') {
                    return -1000 - at;
                }
                at++;
            }
            for (int i = 0; i < steps.size(); i++) {
                int hour = steps.get(i)[1];
                if (hour > now.hour || hour >= now.hour - 47 && was(j, hour) != steps.get(i)[0]) {
                    return i;
                }
            }
            return steps.size();
        }

        List<Integer> line(int j) {
            List<Integer> line = new ArrayList<>();
            for (int i = j; i >= 0; i = now.all.get(i).parent) {
                line.add(i);
            }
            return line;
        }

        int kin(int j, int other, int what) {
            if (!been(j) || !in(what, 0, 2) || what == 2 && !been(other)) {
                return -1;
            }
            List<Integer> line = line(j);
            if (what < 2) {
                return what == 0 ? line.size() : line.get(line.size() - 1);
            }
            for (int i : line) {
                if (line(other).contains(i)) {
                    return i;
                }
            }
            return -2;
        }

        int bread(int j, int loaves) {
            if (living(j) == null || !in(loaves, 1, 999)) {
                return -1;
            }
            List<H> eaters = now.living(living(j).one);
            int total = 0;
            for (H h : eaters) {
                total += h.weight;
            }
            int[] has = new int[64];
            int[] rest = new int[64];
            int left = loaves;
            for (H h : eaters) {
                has[h.number] = loaves * h.weight / total;
                rest[h.number] = loaves * h.weight % total;
                left -= has[h.number];
            }
            while (left > 0) {
                int to = -1;
                for (H h : eaters) {
                    if (to < 0 || rest[h.number] > rest[to]) {
                        to = h.number;
                    }
                }
                has[to]++;
                rest[to] = -1;
                left--;
            }
            return has[j];
        }

        int vote(int one, int fact, int what) {
            if (!in(one, 0, 3) || !in(fact, 0, 15) || !in(what, 0, 2)) {
                return -1;
            }
            int[] sums = new int[2];
            for (H h : now.living(one)) {
                if (h.facts[fact] != null) {
                    sums[h.facts[fact]] += h.weight;
                }
            }
            return what == 0 ? sums[1] : what == 1 ? sums[0] : sums[1] > sums[0] ? 1 : sums[1] < sums[0] ? 0 : -2;
        }

        boolean seed(int x) {
            if (!in(x, 0, 65535)) {
                return false;
            }
            now.x = x;
            return true;
        }

        int keep() {
            kept = now.copy();
            return now.livingAll();
        }

        boolean undo() {
            if (kept == null) {
                return false;
            }
            now = kept.copy();
            return true;
        }

        int check(int n) {
            if (!in(n, 0, 20) || tape.size() < 4 * n) {
                return -2;
            }
            int wrongOne = -1;
            for (int i = n - 1; i >= 0; i--) {
                int said = tape.get(4 * i) << 24 | tape.get(4 * i + 1) << 16 | tape.get(4 * i + 2) << 8 | tape.get(4 * i + 3);
                if (said != (living(i) == null ? 0 : living(i).weight)) {
                    wrongOne = i;
                }
            }
            tape.clear();
            return wrongOne;
        }

        int count(int what) {
            int told = 0;
            for (int[] r : roads) {
                told += r == null ? 0 : 1;
            }
            int[] first = {now.hour, now.all.size(), now.livingAll(), law.letters.size(), tape.size(), now.x, told,
                now.forgotten, now.died, now.merged};
            if (in(what, 0, 9)) {
                return first[what];
            }
            for (int i = 0; i < 3; i++) {
                int r = what - 20 - 40 * i;
                if (in(r, 0, 31)) {
                    return roads[r] == null ? -1 : roads[r][i];
                }
            }
            if (in(what, 140, 155)) {
                int[] n = notices[what - 140];
                return n == null ? -2 : n[0] + 100 * n[1];
            }
            return -1;
        }
    }

    // ---------------------------------------------------------------- the runs

    /** One run of random calls on a new object. */
    static final class Run {
        final int number;
        final Random random;
        final ForkTown town = new ForkTown();
        final Model model = new Model();
        final List<String> told = new ArrayList<>();
        final int places;
        final int ones;

        Run(int number) {
            this.number = number;
            random = new Random(number * 7919L + 17);
            places = 3 + random.nextInt(random.nextBoolean() ? 3 : 14);
            ones = 1 + random.nextInt(4);
        }

        int some(int low, int high) {
            return low + random.nextInt(high - low + 1);
        }

        /** Mostly a number in bounds, now and then one at or beyond an edge. */
        int near(int low, int high) {
            switch (random.nextInt(40)) {
                case 0: return low - 1;
                case 1: return high + 1;
                case 2: return low;
                case 3: return high;
                case 4: return random.nextInt(8) == 0 ? random.nextInt() : some(low, high);
                case 5: return random.nextInt(8) == 0 ? Integer.MIN_VALUE : some(low, high);
                case 6: return random.nextInt(8) == 0 ? Integer.MAX_VALUE : some(low, high);
                default: return some(low, high);
            }
        }

        int place() {
            return random.nextInt(30) == 0 ? near(0, 15) : random.nextInt(Math.min(16, places));
        }

        int someHalf() {
            return random.nextInt(15) == 0 ? near(0, 63) : random.nextInt(Math.max(1, model.now.all.size()) + (random.nextInt(10) == 0 ? 1 : 0));
        }

        int livingHalf() {
            List<Integer> some = new ArrayList<>();
            for (H h : model.now.all) {
                if (h.lives) {
                    some.add(h.number);
                }
            }
            return some.isEmpty() || random.nextInt(15) == 0 ? someHalf() : some.get(random.nextInt(some.size()));
        }

        int one() {
            return random.nextInt(30) == 0 ? near(0, 3) : random.nextInt(ones);
        }

        void due(String call, long got, long want) {
            calls++;
            told.add(call + " = " + got);
            if (got != want && wrong < 5) {
                wrong++;
                System.out.println("run " + number + ": " + call + " answered " + got + ", due is " + want);
                if (wrong == 1) {
                    System.out.println(String.join("\n", told));
                }
            }
        }

        void due(String call, boolean got, boolean want) {
            due(call, got ? 1 : 0, want ? 1 : 0);
        }

        void go() {
            int before = wrong;
            if (random.nextInt(4) > 0) {
                tellRing();
            }
            int roads = some(0, 3 * Math.min(places, 10));
            for (int i = 0; i < roads; i++) {
                tellRoad();
            }
            newLaw();
            for (int i = 0; i < ones; i++) {
                come();
            }
            if (random.nextBoolean()) {
                due("keep()", town.keep(), model.keep());
            }
            while (told.size() < 500 && wrong == before) {
                call(random.nextInt(60));
            }
            lookAtAll();
        }

        /** A town in which ways part and come together again, where there are plans to be found. */
        void goByPlans() {
            int before = wrong;
            int last = some(3, 9);
            for (int r = 0; r < 32; r++) {
                int from = r < last ? r : random.nextInt(last);
                int to = Math.min(last, from + some(1, 3));
                int length = random.nextInt(4) == 0 ? some(1, 4) : to - from;
                if (random.nextInt(25) == 0) {
                    to = random.nextInt(last);
                }
                if (r < last || random.nextInt(last + 10) < last) {
                    due("road(" + r + ", " + from + ", " + to + ", " + length + ")", town.road(r, from, to, length), model.road(r, from, to, length));
                }
            }
            String[] laws = {"c9-r%5(1=1)", "c9-r%5+j%2(1=1);d2(1=1)", "c1+[r*7+i]%6(1=1);w1(p=3);x5(1=1)", "c9(1=1)", "c3+h%2(r%2=0);c3(1=1)",
                "c5-l(1=1);d9(n<3)", "c9-z/700(r%3=1);c4(r%3>0);d1(1=1);w2(q=0&m>0)"};
            while (told.size() < 120 && wrong == before) {
                emptyTape();
                String t = laws[random.nextInt(laws.length)];
                feedText(t);
                due("law(" + t.length() + ")", town.law(t.length()), model.law(t.length()));
                for (int one = 0; one < 4; one++) {
                    int place = random.nextInt(Math.max(1, last / 2));
                    due("comes(" + one + ", " + place + ")", town.comes(one, place), model.comes(one, place));
                }
                for (int i = 0; i < 3; i++) {
                    planFor(random.nextInt(4), 1 << random.nextInt(last + 1) | 1 << random.nextInt(last + 1), some(3, 16));
                }
                int n = some(1, 9);
                due("hours(" + n + ")", town.hours(n), model.hours(n));
            }
        }

        /** A town of long roads, where one becomes many; they are joined in all orders, and die in one night. */
        void goByCrowds() {
            int before = wrong;
            for (int r = 0; r < 32; r++) {
                int to = (r % 16 + some(1, 15)) % 16;
                int length = some(3, 9);
                due("road(" + r + ", " + r % 16 + ", " + to + ", " + length + ")", town.road(r, r % 16, to, length), model.road(r, r % 16, to, length));
            }
            int night = some(20, 50);
            giveLaw("c9(1=1);e(" + condition(1) + ");x10(h>" + night + "&j>0);x10(h>" + (night + 12) + "&j%2=0)");
            int many = number % 10 == 1 ? 1 : ones;
            for (int one = 0; one < many; one++) {
                due("comes(" + one + ", " + one + ")", town.comes(one, one), model.comes(one, one));
            }
            while (model.now.hour < night && wrong == before) {
                due("hours(1)", town.hours(1), model.hours(1));
                for (int i = 0; i < 6; i++) {
                    int j = livingHalf();
                    int fact = some(0, 3);
                    boolean so = random.nextBoolean();
                    due("learns(" + j + ", " + fact + ", " + so + ")", town.learns(j, fact, so), model.learns(j, fact, so));
                }
                joinedOnes();
            }
            for (int i = 0; i < 40 && wrong == before; i++) {
                if (i % 4 == 0) {
                    giveLaw("e(" + condition(2) + ")");
                }
                joinedOnes();
            }
            giveLaw("x10(h>" + night + "&j>0)");
            for (int i = 0; i < 20 && wrong == before; i++) {
                due("hours(1)", town.hours(1), model.hours(1));
                for (int j = 0; j < model.now.all.size(); j++) {
                    due("half(" + j + ", 8)", town.half(j, 8), model.half(j, 8));
                }
            }
            lookAtAll();
        }

        void giveLaw(String t) {
            emptyTape();
            feedText(t);
            told.add("// " + t);
            due("law(" + t.length() + ")", town.law(t.length()), model.law(t.length()));
        }

        void planFor(int one, int bits, int n) {
            for (int what = 0; what < 3; what++) {
                due("plan(" + one + ", " + bits + ", " + n + ", " + what + ")", town.plan(one, bits, n, what), model.plan(one, bits, n, what));
            }
        }

        /** Roads round about, so that nobody comes to rest. */
        void tellRing() {
            int many = Math.min(places, 16);
            for (int p = 0; p < many; p++) {
                int length = some(1, 2);
                int to = (p + 1) % many;
                due("road(" + p + ", " + p + ", " + to + ", " + length + ")", town.road(p, p, to, length), model.road(p, p, to, length));
            }
        }

        /** Two halves at one place, if there are such ones. */
        int[] twoAtOnePlace() {
            List<int[]> some = new ArrayList<>();
            for (H a : model.now.all) {
                for (H b : model.now.all) {
                    if (a != b && a.at() && b.at() && a.place == b.place) {
                        some.add(new int[] {a.number, b.number});
                    }
                }
            }
            return some.isEmpty() || random.nextInt(8) == 0 ? new int[] {livingHalf(), livingHalf()}
                : some.get(random.nextInt(some.size()));
        }

        void tellRoad() {
            int r = near(0, 31);
            int from = place();
            int to = random.nextInt(20) == 0 ? from : place();
            int length = random.nextInt(3) == 0 ? near(1, 9) : some(1, 3);
            due("road(" + r + ", " + from + ", " + to + ", " + length + ")", town.road(r, from, to, length), model.road(r, from, to, length));
        }

        void come() {
            int one = one();
            int place = place();
            due("comes(" + one + ", " + place + ")", town.comes(one, place), model.comes(one, place));
        }

        void feed(int[] bytes) {
            for (int i = 0; i < bytes.length; i += 20) {
                int[] w = new int[5];
                for (int k = 0; k < 20; k++) {
                    int b = i + k < bytes.length ? bytes[i + k] : random.nextInt(256);
                    w[k / 4] = w[k / 4] << 8 | b;
                }
                due("feed(" + w[0] + ", " + w[1] + ", " + w[2] + ", " + w[3] + ", " + w[4] + ")",
                    town.feed(w[0], w[1], w[2], w[3], w[4]), model.feed(w));
            }
        }

        void feedText(String t) {
            feed(t.chars().toArray());
        }

        void emptyTape() {
            if (!model.tape.isEmpty()) {
                due("check(0)", town.check(0), model.check(0));
            }
        }

        String factor(int depth) {
            int kind = random.nextInt(10);
            if (depth > 0 && kind == 0) {
                return "[" + sum(depth - 1) + "]";
            }
            return kind < 5 ? "" + (random.nextInt(4) == 0 ? random.nextInt(100000) : random.nextInt(12))
                : "" + "hijzpnmokrqlfy".charAt(random.nextInt(14));
        }

        String sum(int depth) {
            StringBuilder b = new StringBuilder(factor(depth));
            while (random.nextInt(3) == 0) {
                b.append("+-*/%".charAt(random.nextInt(5))).append(factor(depth));
            }
            return b.toString();
        }

        String condition(int depth) {
            StringBuilder b = new StringBuilder(piece(depth));
            while (random.nextInt(4) == 0) {
                b.append(random.nextBoolean() ? "|" : "&").append(piece(depth));
            }
            return b.toString();
        }

        String piece(int depth) {
            int kind = random.nextInt(8);
            if (depth > 0 && kind == 0) {
                return "!" + piece(depth - 1);
            }
            if (depth > 0 && kind == 1) {
                return "(" + condition(depth - 1) + ")";
            }
            if (kind < 4) {
                return "1=1";
            }
            return sum(depth) + "<>=".charAt(random.nextInt(3)) + sum(depth);
        }

        String lawText() {
            List<String> clauses = new ArrayList<>();
            int depth = random.nextInt(4) == 0 ? 7 : 2;
            clauses.add("c" + (random.nextBoolean() ? some(1, 9) + "+" : "") + sum(depth) + "(" + condition(depth) + ")");
            if (random.nextInt(3) > 0) {
                clauses.add("c" + some(1, 99) + "(1=1)");
            }
            if (random.nextInt(4) > 0) {
                clauses.add("d" + some(0, 99) + "(1=1)");
            }
            int more = random.nextInt(5);
            for (int i = 0; i < more; i++) {
                char letter = "cdbwxebwe".charAt(random.nextInt(9));
                clauses.add(letter + (letter == 'e' ? "" : letter == 'x' ? "" + some(0, 4) : sum(depth)) + "(" + condition(depth) + ")");
            }
            if (random.nextInt(3) == 0) {
                java.util.Collections.shuffle(clauses, random);
            }
            String t = String.join(";", clauses);
            if (random.nextInt(6) == 0) {
                t = spoiled(t, "cdbwxehijzpnmokrqlfy0123456789()[]!&|<>=+-*/%; ag");
            }
            return t;
        }

        String spoiled(String t, String signs) {
            StringBuilder b = new StringBuilder(t);
            int at = random.nextInt(b.length() + 1);
            char sign = signs.charAt(random.nextInt(signs.length()));
            int kind = random.nextInt(4);
            if (kind == 0) {
                b.insert(at, sign);
            } else if (kind == 1 && at < b.length()) {
                b.setCharAt(at, sign);
            } else if (kind == 2 && at < b.length()) {
                b.deleteCharAt(at);
            } else {
                for (int i = random.nextInt(8); i >= 0; i--) {
                    b.insert(at, sign);
                }
            }
            return b.length() == 0 ? "c" : b.toString();
        }

        void newLaw() {
            emptyTape();
            String t = lawText();
            if (random.nextInt(15) == 0) {
                StringBuilder many = new StringBuilder("e(h=0)");
                for (int i = some(13, 17); i > 0; i--) {
                    many.append(";e(h=1)");
                }
                t = many.toString();
            }
            if (t.length() > 240) {
                t = t.substring(0, 240);
            }
            feedText(t);
            told.add("// " + t);
            int n = random.nextInt(20) == 0 ? near(1, 240) : t.length();
            due("law(" + n + ")", town.law(n), model.law(n));
            due("count(3)", town.count(3), model.count(3));
        }

        void call(int kind) {
            int a;
            int b;
            int c;
            switch (kind) {
                case 0:
                    tellRoad();
                    break;
                case 1: case 2:
                    a = place();
                    b = random.nextInt(3) == 0 ? near(-1, 15) : some(0, 3);
                    boolean so = random.nextBoolean();
                    due("notice(" + a + ", " + b + ", " + so + ")", town.notice(a, b, so), model.notice(a, b, so));
                    break;
                case 3: case 4:
                    come();
                    break;
                case 5: case 6: case 7: case 8:
                    a = livingHalf();
                    b = random.nextInt(3) == 0 ? near(0, 15) : some(0, 3);
                    so = random.nextBoolean();
                    due("learns(" + a + ", " + b + ", " + so + ")", town.learns(a, b, so), model.learns(a, b, so));
                    break;
                case 9:
                    a = livingHalf();
                    b = random.nextInt(2) == 0 ? near(0, 99999) : some(0, 30);
                    due("owes(" + a + ", " + b + ")", town.owes(a, b), model.owes(a, b));
                    break;
                case 10:
                    if (random.nextInt(4) == 0) {
                        newLaw();
                    }
                    break;
                case 11: case 12: case 13: case 14: case 15: case 16: case 17: case 18:
                    a = random.nextInt(12) == 0 ? near(1, 48) : some(1, 3);
                    due("hours(" + a + ")", town.hours(a), model.hours(a));
                    break;
                case 19: case 20:
                    a = random.nextInt(4) == 0 ? near(1, 48) : some(1, 6);
                    b = random.nextInt(2) == 0 ? some(0, 4) : random.nextInt(5) == 0 ? near(0, 40) : 10 * some(1, 3) + random.nextInt(4);
                    due("tried(" + a + ", " + b + ")", town.tried(a, b), model.tried(a, b));
                    break;
                case 21: case 22: case 23: case 24:
                    a = someHalf();
                    b = random.nextInt(3) == 0 ? near(0, 40) : some(0, 10);
                    due("half(" + a + ", " + b + ")", town.half(a, b), model.half(a, b));
                    break;
                case 25: case 26:
                    a = livingHalf();
                    b = near(0, 31);
                    due("gladly(" + a + ", " + b + ")", town.gladly(a, b), model.gladly(a, b));
                    break;
                case 27:
                    a = one();
                    b = near(0, 3);
                    due("halves(" + a + ", " + b + ")", town.halves(a, b), model.halves(a, b));
                    break;
                case 28: case 29: case 30:
                    a = someHalf();
                    b = random.nextInt(5) == 0 ? near(0, 60) : model.now.hour - some(-2, 50);
                    due("was(" + a + ", " + b + ")", town.was(a, b), model.was(a, b));
                    break;
                case 31:
                    a = place();
                    b = near(0, 60);
                    due("byForks(" + a + ", " + b + ")", town.byForks(a, b), model.byForks(a, b));
                    break;
                case 32: case 33: case 34:
                    planned();
                    break;
                case 35: case 36: case 37:
                    joinedOnes();
                    break;
                case 38: case 39:
                    int[] two = twoAtOnePlace();
                    a = two[0];
                    b = two[1];
                    c = near(0, 2);
                    due("chosen(" + a + ", " + b + ", " + c + ")", town.chosen(a, b, c), model.chosen(a, b, c));
                    break;
                case 40: case 41: case 42:
                    seenOnes();
                    break;
                case 43:
                    a = one();
                    due("meet(" + a + ")", town.meet(a), model.meet(a));
                    break;
                case 44:
                    a = near(0, 2);
                    due("built(" + a + ")", town.built(a), model.built(a));
                    break;
                case 45:
                    a = place();
                    b = place();
                    c = near(0, 1);
                    due("closed(" + a + ", " + b + ", " + c + ")", town.closed(a, b, c), model.closed(a, b, c));
                    break;
                case 46: case 47: case 48: case 49:
                    aHistory();
                    break;
                case 50:
                    a = someHalf();
                    b = someHalf();
                    c = near(0, 2);
                    due("kin(" + a + ", " + b + ", " + c + ")", town.kin(a, b, c), model.kin(a, b, c));
                    break;
                case 51:
                    a = livingHalf();
                    b = random.nextBoolean() ? near(1, 999) : some(1, 40);
                    due("bread(" + a + ", " + b + ")", town.bread(a, b), model.bread(a, b));
                    break;
                case 52:
                    a = one();
                    b = random.nextInt(3) == 0 ? near(0, 15) : some(0, 3);
                    c = near(0, 2);
                    due("vote(" + a + ", " + b + ", " + c + ")", town.vote(a, b, c), model.vote(a, b, c));
                    break;
                case 53:
                    a = near(0, 65535);
                    due("seed(" + a + ")", town.seed(a), model.seed(a));
                    break;
                case 54:
                    due("keep()", town.keep(), model.keep());
                    break;
                case 55:
                    if (random.nextInt(3) > 0) {
                        due("undo()", town.undo(), model.undo());
                    }
                    break;
                case 56:
                    checked();
                    break;
                case 57:
                    a = random.nextInt(60);
                    feed(new int[a]);
                    break;
                default:
                    a = random.nextInt(2) == 0 ? some(0, 9) : near(0, 160);
                    due("count(" + a + ")", town.count(a), model.count(a));
                    break;
            }
        }

        void planned() {
            int one = one();
            int bits = 0;
            for (int i = random.nextInt(4); i > 0; i--) {
                bits |= 1 << (place() & 15);
            }
            bits = random.nextInt(20) == 0 ? near(0, 65535) : bits;
            int n = random.nextInt(10) == 0 ? near(1, 48) : some(1, 14);
            int what = near(0, 2);
            due("plan(" + one + ", " + bits + ", " + n + ", " + what + ")", town.plan(one, bits, n, what), model.plan(one, bits, n, what));
        }

        void joinedOnes() {
            if (random.nextInt(10) > 0) {
                emptyTape();
            }
            List<H> some = new ArrayList<>(model.now.living(random.nextInt(ones)));
            java.util.Collections.shuffle(some, random);
            int n = Math.max(2, Math.min(some.size(), some(2, 5)));
            int[] row = new int[n];
            for (int i = 0; i < n; i++) {
                row[i] = i < some.size() && random.nextInt(20) > 0 ? some.get(i).number : livingHalf() & 255;
            }
            feed(row);
            n = random.nextInt(15) == 0 ? near(2, 5) : n;
            int what = near(-1, row.length - 1);
            due("joined(" + n + ", " + what + ")", town.joined(n, what), model.joined(n, what));
        }

        void seenOnes() {
            if (random.nextInt(10) > 0) {
                emptyTape();
            }
            int n = random.nextInt(3) == 0 ? some(1, 8) : some(1, 2);
            int[] row = new int[3 * n];
            int j = Math.max(0, someHalf() & 63);
            for (int i = 0; i < n; i++) {
                int hour = Math.max(0, model.now.hour - some(random.nextInt(20) == 0 ? -1 : 0, random.nextInt(4) == 0 ? 49 : 9));
                int place = model.was(j, hour);
                row[3 * i] = hour >> 8;
                row[3 * i + 1] = hour & 255;
                row[3 * i + 2] = place >= 0 && random.nextInt(15) > 0 ? place : place() & 31;
            }
            feed(row);
            n = random.nextInt(15) == 0 ? near(1, 8) : n;
            int what = near(0, 1);
            due("whoWas(" + n + ", " + what + ")", town.whoWas(n, what), model.whoWas(n, what));
        }

        void aHistory() {
            emptyTape();
            int j = someHalf();
            StringBuilder t = new StringBuilder();
            int hour = Math.max(0, model.now.hour - some(0, random.nextInt(4) == 0 ? 60 : 15));
            for (int i = random.nextInt(random.nextInt(3) == 0 ? 12 : 4); i >= 0; i--) {
                int place = model.was(Math.max(0, j), hour);
                for (int look = 0; place < 0 && look < 8; look++) {
                    hour++;
                    place = model.was(Math.max(0, j), hour);
                }
                place = place < 0 || random.nextInt(25) == 0 ? random.nextInt(17) : place;
                t.append(t.length() > 0 ? "," : "").append(place).append('@').append(hour);
                hour += random.nextInt(20) == 0 ? 0 : 1 + random.nextInt(random.nextInt(10) == 0 ? 30 : 3);
            }
            String text = t.length() > 60 ? t.substring(0, 60) : t.toString();
            if (random.nextInt(4) == 0) {
                text = spoiled(text, "0123456789@,;a");
                text = text.length() > 60 ? text.substring(0, 60) : text;
            }
            feedText(text);
            told.add("// " + text);
            int n = random.nextInt(20) == 0 ? near(1, 60) : text.length();
            due("history(" + j + ", " + n + ")", town.history(j, n), model.history(j, n));
        }

        void checked() {
            emptyTape();
            int n = some(0, 20);
            int[] bytes = new int[4 * n];
            for (int i = 0; i < n; i++) {
                int weight = model.living(i) == null ? 0 : model.living(i).weight;
                weight += random.nextInt(60) == 0 ? some(-1, 1) << some(0, 31) : 0;
                for (int k = 0; k < 4; k++) {
                    bytes[4 * i + k] = weight >>> (24 - 8 * k) & 255;
                }
            }
            feed(bytes);
            n = random.nextInt(10) == 0 ? near(0, 20) : n;
            due("check(" + n + ")", town.check(n), model.check(n));
        }

        /** At the end all that can be seen is compared, beyond the calls that an object is made for. */
        void lookAtAll() {
            for (int j = 0; j < model.now.all.size(); j++) {
                for (int what = 0; what < 36; what++) {
                    due("half(" + j + ", " + what + ")", town.half(j, what), model.half(j, what));
                }
                for (int hour = model.now.hour - 49; hour <= model.now.hour + 1; hour++) {
                    due("was(" + j + ", " + hour + ")", town.was(j, hour), model.was(j, hour));
                }
            }
            for (int what = -1; what < 160; what++) {
                due("count(" + what + ")", town.count(what), model.count(what));
            }
        }
    }
}
