import java.util.ArrayDeque;
import java.util.ArrayList;
import java.util.Arrays;
import java.util.HashMap;
import java.util.HashSet;
import java.util.List;
import java.util.Map;
import java.util.Set;

/** The document once more, in the slowest and plainest words, to hold the program against. */
final class PlainModel {
    static final int NONE = -1;

    private static final class State {
        int n = 5;
        int law = 1;
        int seed = 1;
        int[] poured = new int[6];
        int[] truth = new int[6];
        int[][] looks = new int[6][3];
        int[] wants = {-1, -1, -1, -1, -1, -1};
        int[] minds = new int[6];
        /** Numbers by 10 times the place and the kind: at six places there are but 24. */
        Map<Integer, Integer> signs = new HashMap<>();
        List<int[]> tellers = new ArrayList<>();

        State twin() {
            State t = new State();
            t.n = n;
            t.law = law;
            t.seed = seed;
            t.poured = poured.clone();
            t.truth = truth.clone();
            for (int i = 0; i < 6; i++) {
                t.looks[i] = looks[i].clone();
            }
            t.wants = wants.clone();
            t.minds = minds.clone();
            t.signs = new HashMap<>(signs);
            t.tellers = new ArrayList<>(tellers);
            return t;
        }

        int number(int kind, int sort) {
            return kind == 3 ? sort : looks[sort][kind];
        }

        void learn(int place, int kind, int v) {
            signs.putIfAbsent(10 * place + kind, v);
        }
    }

    private static final class Row {
        final int sort;
        final long[] elements;

        Row(int sort, int n) {
            this.sort = sort;
            this.elements = new long[n];
        }
    }

    private State st = new State();
    private State kept = null;
    private final Object[] shelves = new Object[8];
    private final StringBuilder tape = new StringBuilder();
    private final int[] refused = new int[7];
    private final Map<String, List<int[]>> worldsKnown = new HashMap<>();

    private int no(int why) {
        refused[-why]++;
        return why;
    }

    private static boolean in(long v, long a, long b) {
        return v >= a && v <= b;
    }

    private boolean place(int p) {
        return in(p, 0, st.n - 1);
    }

    private static boolean shelf(int s) {
        return in(s, 0, 7);
    }

    private boolean tellerIs(int t) {
        return in(t, 0, st.tellers.size() - 1);
    }

    int row(int s, int sort, int n) {
        if (!shelf(s) || !in(sort, 0, 4) || !in(n, 0, 40)) {
            return no(-2);
        }
        shelves[s] = new Row(sort, n);
        return 1;
    }

    int set(int s, int i, long v) {
        if (!shelf(s)) {
            return no(-2);
        }
        if (shelves[s] instanceof Integer) {
            return no(-3);
        }
        if (shelves[s] == null) {
            return no(-4);
        }
        Row r = (Row) shelves[s];
        if (!in(i, 0, r.elements.length - 1)) {
            return no(-2);
        }
        long bits = r.sort == 0 ? 8 : r.sort == 1 ? 16 : r.sort == 2 ? 32 : 64;
        r.elements[i] = r.sort == 4 ? (v == 0 ? 0 : 1) : v << (64 - bits) >> (64 - bits);
        return 1;
    }

    int copy(int p, int q, int i, int j, int n) {
        if (!shelf(p) || !shelf(q)) {
            return no(-2);
        }
        if (shelves[p] instanceof Integer || shelves[q] instanceof Integer) {
            return no(-3);
        }
        if (shelves[p] != null && shelves[q] != null
                && ((Row) shelves[p]).sort != ((Row) shelves[q]).sort) {
            return no(-3);
        }
        if (shelves[p] == null || shelves[q] == null) {
            return no(-4);
        }
        long[] from = ((Row) shelves[p]).elements.clone();
        long[] to = ((Row) shelves[q]).elements;
        if (n < 0 || i < 0 || j < 0 || (long) i + n > from.length || (long) j + n > to.length) {
            return no(-2);
        }
        for (int k = 0; k < n; k++) {
            to[j + k] = from[i + k];
        }
        return n;
    }

    long element(int s, int i) {
        if (!shelf(s) || !(shelves[s] instanceof Row)) {
            return 0;
        }
        long[] e = ((Row) shelves[s]).elements;
        return in(i, 0, e.length - 1) ? e[i] : 0;
    }

    int holds(int s) {
        if (!shelf(s) || shelves[s] == null) {
            return NONE;
        }
        return shelves[s] instanceof Row ? ((Row) shelves[s]).sort : 10 + (Integer) shelves[s];
    }

    int show(int s, int teller) {
        if (!shelf(s) || teller != NONE && !tellerIs(teller)) {
            return no(-2);
        }
        shelves[s] = teller == NONE ? null : (Object) teller;
        return 1;
    }

    int says(int s, int kind) {
        if (!shelf(s) || !in(kind, 0, 5)) {
            return no(-2);
        }
        if (shelves[s] instanceof Row) {
            return no(-3);
        }
        if (shelves[s] == null) {
            return no(-4);
        }
        int teller = (Integer) shelves[s];
        String[] under = {"0", "01", "02", "023", "0234", "025"};
        if (under[st.tellers.get(teller)[0]].indexOf('0' + kind) < 0) {
            return no(-3);
        }
        return kind == 0 ? st.tellers.get(teller)[1] : saying(teller);
    }

    int cups(int n) {
        if (!in(n, 2, 6)) {
            return no(-2);
        }
        int were = st.n;
        lay(n);
        return were;
    }

    private void lay(int n) {
        st.n = n;
        st.poured = new int[6];
        st.truth = new int[6];
        st.signs.clear();
    }

    private int told(int s, int[] into, boolean sorts) {
        if (!shelf(s)) {
            return -2;
        }
        if (shelves[s] instanceof Integer) {
            return -3;
        }
        if (shelves[s] == null) {
            return -4;
        }
        long[] e = ((Row) shelves[s]).elements;
        if (e.length < st.n) {
            return -2;
        }
        for (int i = 0; i < st.n; i++) {
            if (sorts && !in(e[i], 0, 5)) {
                return -2;
            }
            into[i] = in(e[i], 0, 5) ? (int) e[i] : 99;
        }
        return 1;
    }

    int pour(int s) {
        int[] r = new int[6];
        int f = told(s, r, true);
        if (f < 0) {
            return no(f);
        }
        pourIt(r);
        return all().size();
    }

    private void pourIt(int[] r) {
        st.poured = r.clone();
        st.truth = r.clone();
        st.signs.clear();
    }

    int law(int v) {
        if (!in(v, 0, 2)) {
            return no(-2);
        }
        int was = st.law;
        st.law = v;
        return was;
    }

    int sort(int sort, int what, int v) {
        if (!in(sort, 0, 5) || !in(what, 0, 2) || !in(v, 0, 9)) {
            return no(-2);
        }
        int was = st.looks[sort][what];
        st.looks[sort][what] = v;
        return was;
    }

    int guest(int guest, int sort, int minds) {
        if (!place(guest) || !in(sort, -1, 5) || !in(minds, 0, 9)) {
            return no(-2);
        }
        st.wants[guest] = sort;
        st.minds[guest] = minds;
        return 1;
    }

    int teller(int kind, int a) {
        if (!in(kind, 0, 5) || !in(a, 0, 9)) {
            return no(-2);
        }
        if (st.tellers.size() == 4) {
            return no(-6);
        }
        st.tellers.add(new int[] {kind, a});
        return st.tellers.size() - 1;
    }

    int sign(int place, int kind, int v) {
        if (!place(place) || !in(kind, 0, 3) || !in(v, 0, kind == 3 ? 5 : 9)) {
            return no(-2);
        }
        int with = having(place, kind, v);
        if (with == 0) {
            return no(-5);
        }
        st.learn(place, kind, v);
        return with;
    }

    private int having(int place, int kind, int v) {
        int with = 0;
        for (int[] w : possible()) {
            if (st.number(kind, w[place]) == v) {
                with++;
            }
        }
        return with;
    }

    int forget() {
        int were = st.signs.size();
        st.signs.clear();
        return were;
    }

    int feed(int letter) {
        if (!in(letter, 0, 255)) {
            return no(-2);
        }
        if (tape.length() == 250) {
            return no(-6);
        }
        tape.append((char) letter);
        return tape.length();
    }

    int wipe() {
        int was = tape.length();
        tape.setLength(0);
        return was;
    }

    /** A fault of a stair, thrown in the model alone. */
    private static final class Fault extends RuntimeException {
        final int at;

        Fault(int at) {
            super("" + at, null, false, false);
            this.at = at;
        }
    }

    private List<String> tokens;
    private List<Integer> starts;
    private int nextToken;

    int stair() {
        String text = tape.toString();
        tape.setLength(0);
        tokens = new ArrayList<>();
        starts = new ArrayList<>();
        java.util.regex.Matcher m = java.util.regex.Pattern.compile("(?s)[a-z]+|[0-9]+|[^ ]")
                .matcher(text);
        while (m.find()) {
            tokens.add(m.group());
            starts.add(m.start());
        }
        tokens.add("");
        starts.add(text.length());
        nextToken = 0;
        State was = st.twin();
        try {
            int many = 0;
            do {
                statement();
                many++;
            } while (more());
            return many;
        } catch (Fault f) {
            st = was;
            no(-2);
            return -20 - f.at;
        }
    }

    private boolean more() {
        String t = tokens.get(nextToken);
        if (t.isEmpty()) {
            return false;
        }
        if (!t.equals(";")) {
            throw new Fault(starts.get(nextToken));
        }
        nextToken++;
        return true;
    }

    private int num(int a, int b) {
        String t = tokens.get(nextToken);
        if (!t.matches("[0-9]{1,2}") || !in(Integer.parseInt(t), a, b)) {
            throw new Fault(starts.get(nextToken));
        }
        nextToken++;
        return Integer.parseInt(t);
    }

    private void statement() {
        int word = nextToken;
        String t = tokens.get(nextToken++);
        if (t.equals("cups")) {
            lay(num(2, 6));
        } else if (t.equals("pour")) {
            int[] r = new int[6];
            for (int i = 0; i < st.n; i++) {
                r[i] = num(0, 5);
            }
            pourIt(r);
        } else if (t.equals("law")) {
            st.law = num(0, 2);
        } else if (t.equals("sort")) {
            int s = num(0, 5);
            st.looks[s] = new int[] {num(0, 9), num(0, 9), num(0, 9)};
        } else if (t.equals("guest")) {
            int g = num(0, st.n - 1);
            st.wants[g] = num(0, 5);
            st.minds[g] = num(0, 9);
        } else if (t.equals("sign")) {
            int p = num(0, st.n - 1);
            int k = num(0, 3);
            int v = num(0, k == 3 ? 5 : 9);
            if (having(p, k, v) == 0) {
                throw new Fault(starts.get(nextToken - 1));
            }
            st.learn(p, k, v);
        } else {
            throw new Fault(starts.get(word));
        }
    }

    private List<int[]> all() {
        String key = st.n + " " + st.law + " " + Arrays.toString(st.poured);
        return worldsKnown.computeIfAbsent(key, k -> findAll());
    }

    private List<int[]> findAll() {
        List<int[]> found = new ArrayList<>();
        int[] row = new int[st.n];
        findFrom(0, row, found);
        return found;
    }

    /** Every row of sorts there can be, in order, and of these the ones that the law allows. */
    private void findFrom(int p, int[] row, List<int[]> found) {
        if (p == st.n) {
            if (allowed(row)) {
                found.add(row.clone());
            }
            return;
        }
        for (int s = 0; s < 6; s++) {
            row[p] = s;
            int poured = 0;
            int used = 0;
            for (int i = 0; i < st.n; i++) {
                poured += st.poured[i] == s ? 1 : 0;
                used += i <= p && row[i] == s ? 1 : 0;
            }
            if (used <= poured) {
                findFrom(p + 1, row, found);
            }
        }
    }

    private boolean allowed(int[] row) {
        if (st.law == 2) {
            return true;
        }
        for (int k = 0; k < (st.law == 0 ? 1 : st.n); k++) {
            boolean same = true;
            for (int p = 0; p < st.n; p++) {
                same &= row[(p + k) % st.n] == st.poured[p];
            }
            if (same) {
                return true;
            }
        }
        return false;
    }

    private List<int[]> possible() {
        List<int[]> found = new ArrayList<>();
        for (int[] w : all()) {
            boolean has = true;
            for (Map.Entry<Integer, Integer> g : st.signs.entrySet()) {
                int placeAndKind = g.getKey();
                has &= st.number(placeAndKind % 10, w[placeAndKind / 10]) == g.getValue();
            }
            if (has) {
                found.add(w);
            }
        }
        return found;
    }

    int worlds(int what) {
        if (!in(what, 0, 1)) {
            return no(-2);
        }
        return what == 0 ? all().size() : possible().size();
    }

    int world(int i, int place) {
        if (i < 0 || !place(place)) {
            return no(-2);
        }
        List<int[]> w = possible();
        return i < w.size() ? w.get(i)[place] : no(-5);
    }

    int sorts(int place) {
        if (!place(place)) {
            return no(-2);
        }
        int bits = 0;
        for (int[] w : possible()) {
            bits |= 1 << w[place];
        }
        return bits;
    }

    int likely(int place, int what) {
        if (!place(place) || !in(what, 0, 1)) {
            return no(-2);
        }
        List<int[]> possible = possible();
        if (possible.isEmpty()) {
            return no(-5);
        }
        int[] many = new int[6];
        for (int[] w : possible) {
            many[w[place]]++;
        }
        int top = Arrays.stream(many).max().getAsInt();
        for (int s = 0; s < 6; s++) {
            if (many[s] == top) {
                return what == 0 ? s : 1000 * top / possible.size();
            }
        }
        throw new IllegalStateException();
    }

    int known() {
        int bits = 0;
        List<int[]> possible = possible();
        for (int p = 0; p < st.n; p++) {
            Set<Integer> seen = new HashSet<>();
            for (int[] w : possible) {
                seen.add(w[p]);
            }
            if (seen.size() < 2) {
                bits |= 1 << p;
            }
        }
        return bits;
    }

    private Map<Integer, Integer> numbersAt(int place, int kind) {
        Map<Integer, Integer> many = new HashMap<>();
        for (int[] w : possible()) {
            many.merge(st.number(kind, w[place]), 1, Integer::sum);
        }
        return many;
    }

    private int worst(int place, int kind) {
        return numbersAt(place, kind).values().stream().mapToInt(v -> v).max().orElse(0);
    }

    int split(int place, int kind, int what) {
        if (!place(place) || !in(kind, 0, 3) || !in(what, 0, 1)) {
            return no(-2);
        }
        return what == 0 ? numbersAt(place, kind).size() : worst(place, kind);
    }

    int next(int kinds) {
        if (!in(kinds, 1, 15)) {
            return no(-2);
        }
        return possible().isEmpty() ? no(-5) : nextOf(kinds);
    }

    private int nextOf(int kinds) {
        int least = 9999;
        int found = NONE;
        for (int i = 0; i < 4 * st.n; i++) {
            if ((kinds & 1 << i % 4) != 0 && worst(i / 4, i % 4) < least) {
                least = worst(i / 4, i % 4);
                found = i / 4 * 10 + i % 4;
            }
        }
        return found;
    }

    int fewest(int kinds) {
        if (!in(kinds, 1, 15)) {
            return no(-2);
        }
        List<int[]> possible = possible();
        if (possible.isEmpty() || possible.size() > 24) {
            return no(-5);
        }
        Map<Long, Boolean> seen = new HashMap<>();
        for (int steps = 0; steps <= 4; steps++) {
            if (tellable(possible, (1L << possible.size()) - 1, steps, kinds, seen)) {
                return steps;
            }
        }
        return NONE;
    }

    private boolean tellable(List<int[]> worlds, long left, int steps, int kinds,
            Map<Long, Boolean> seen) {
        if (Long.bitCount(left) <= 1) {
            return true;
        }
        if (steps == 0) {
            return false;
        }
        Boolean before = seen.get(left * 8 + steps);
        if (before != null) {
            return before;
        }
        boolean can = false;
        for (int i = 0; i < 4 * st.n && !can; i++) {
            if ((kinds & 1 << i % 4) != 0) {
                Map<Integer, Long> parts = new HashMap<>();
                for (int w = 0; w < worlds.size(); w++) {
                    if ((left >> w & 1) == 1) {
                        parts.merge(st.number(i % 4, worlds.get(w)[i / 4]), 1L << w, Long::sum);
                    }
                }
                can = true;
                for (long part : parts.values()) {
                    can = can && tellable(worlds, part, steps - 1, kinds, seen);
                }
            }
        }
        seen.put(left * 8 + steps, can);
        return can;
    }

    int apart() {
        List<int[]> possible = possible();
        if (possible.isEmpty()) {
            return no(-5);
        }
        int best = NONE;
        for (int set = 0; set < 1 << st.n; set++) {
            if (best != NONE && Integer.bitCount(set) >= Integer.bitCount(best)) {
                continue;
            }
            Set<String> seen = new HashSet<>();
            boolean tells = true;
            for (int[] w : possible) {
                StringBuilder b = new StringBuilder();
                for (int p = 0; p < st.n; p++) {
                    b.append((set >> p & 1) == 1 ? (char) ('0' + w[p]) : '-');
                }
                tells = seen.add(b.toString());
                if (!tells) {
                    break;
                }
            }
            if (tells) {
                best = set;
            }
        }
        return best;
    }

    int marks(int kinds) {
        if (!in(kinds, 0, 15)) {
            return no(-2);
        }
        Map<String, Integer> many = new HashMap<>();
        for (int[] w : all()) {
            StringBuilder b = new StringBuilder();
            for (int i = 0; i < 4 * st.n; i++) {
                if ((kinds & 1 << i % 4) != 0) {
                    b.append(st.number(i % 4, w[i / 4])).append(' ');
                }
            }
            many.merge(b.toString(), 1, Integer::sum);
        }
        return many.values().stream().mapToInt(v -> v).max().getAsInt();
    }

    private int wrong(int[] h) {
        for (int g = 0; g < st.n; g++) {
            boolean bad = !in(h[g], 0, st.n - 1);
            for (int i = 0; i < g; i++) {
                bad |= h[i] == h[g];
            }
            if (bad) {
                return g;
            }
        }
        return NONE;
    }

    int judge(int s) {
        int[] h = new int[6];
        int f = told(s, h, false);
        return f < 0 ? no(f) : wrong(h);
    }

    private int cost(int[] h, int[] w) {
        int cost = 0;
        for (int g = 0; g < st.n; g++) {
            if (st.wants[g] != NONE && st.wants[g] != w[h[g]]) {
                cost += st.minds[g];
            }
        }
        return cost;
    }

    int handing(int s, int what) {
        if (!shelf(s) || !in(what, 0, 2)) {
            return no(-2);
        }
        int[] h = new int[6];
        int f = told(s, h, false);
        if (f < 0) {
            return no(f);
        }
        if (wrong(h) != NONE) {
            return no(-5);
        }
        if (what == 2) {
            return cost(h, st.truth);
        }
        return what == 0 ? mean(h) : swaps(h);
    }

    private int mean(int[] h) {
        int sum = 0;
        for (int[] w : possible()) {
            sum += cost(h, w);
        }
        return sum;
    }

    private int swaps(int[] from) {
        ArrayDeque<int[]> line = new ArrayDeque<>();
        Map<String, Integer> steps = new HashMap<>();
        line.add(from);
        steps.put(Arrays.toString(from), 0);
        while (!line.isEmpty()) {
            int[] h = line.poll();
            int here = steps.get(Arrays.toString(h));
            boolean has = true;
            for (int g = 0; g < st.n; g++) {
                has &= st.wants[g] == NONE || st.truth[h[g]] == st.wants[g];
            }
            if (has) {
                return here;
            }
            for (int a = 0; a < st.n; a++) {
                for (int b = 0; b < a; b++) {
                    int[] t = h.clone();
                    t[a] = h[b];
                    t[b] = h[a];
                    if (steps.putIfAbsent(Arrays.toString(t), here + 1) == null) {
                        line.add(t);
                    }
                }
            }
        }
        return NONE;
    }

    private int leastMean;
    private int[] leastHanding;

    private void findBest() {
        int[][] minded = new int[6][6];
        for (int[] w : possible()) {
            for (int g = 0; g < st.n; g++) {
                for (int p = 0; p < st.n; p++) {
                    minded[g][p] += st.wants[g] != NONE && st.wants[g] != w[p] ? st.minds[g] : 0;
                }
            }
        }
        leastHanding = null;
        bestFrom(0, new int[6], 0, minded);
    }

    private void bestFrom(int g, int[] h, int sum, int[][] minded) {
        if (g == st.n) {
            if (leastHanding == null || sum < leastMean) {
                leastMean = sum;
                leastHanding = h.clone();
            }
            return;
        }
        for (int p = 0; p < st.n; p++) {
            boolean free = true;
            for (int i = 0; i < g; i++) {
                free &= h[i] != p;
            }
            if (free) {
                h[g] = p;
                bestFrom(g + 1, h, sum + minded[g][p], minded);
            }
        }
    }

    int best(int guest) {
        if (guest != NONE && !place(guest)) {
            return no(-2);
        }
        findBest();
        return guest == NONE ? leastMean : leastHanding[guest];
    }

    int mind(int guest, int place) {
        if (!place(guest) || !place(place)) {
            return no(-2);
        }
        int many = 0;
        for (int[] w : possible()) {
            many += st.wants[guest] != NONE && w[place] != st.wants[guest] ? 1 : 0;
        }
        return many;
    }

    int tells(int teller) {
        return tellerIs(teller) ? saying(teller) : no(-2);
    }

    private int firstNotKnown(int kind) {
        int known = known();
        for (int p = 0; p < st.n; p++) {
            if ((known >> p & 1) == 0) {
                return 10 * p + kind;
            }
        }
        return NONE;
    }

    private int saying(int teller) {
        int kind = st.tellers.get(teller)[0];
        int many = possible().size();
        if (many == 0) {
            return NONE;
        }
        if (kind == 0) {
            return firstNotKnown(st.tellers.get(teller)[1] % 4);
        }
        if (kind == 1) {
            int top = 0;
            for (int p = 0; p < st.n; p++) {
                top = Math.max(top, numbersAt(p, 0).size());
            }
            for (int p = 0; top > 1; p++) {
                if (numbersAt(p, 0).size() == top) {
                    return 10 * p;
                }
            }
            return NONE;
        }
        if (many == 1) {
            return NONE;
        }
        if (kind == 2) {
            return firstNotKnown(3);
        }
        if (kind == 5) {
            findBest();
            int top = 0;
            for (int g = 0; g < st.n; g++) {
                top = st.minds[g] > st.minds[top] ? g : top;
            }
            int p = leastHanding[top];
            return (known() >> p & 1) == 1 ? firstNotKnown(3) : 10 * p + 3;
        }
        int said = nextOf(7);
        return kind == 3 || worst(said / 10, said % 10) < many ? said : nextOf(8);
    }

    int odd(int place) {
        if (!place(place)) {
            return no(-2);
        }
        int many = 0;
        for (int[] w : possible()) {
            int same = 0;
            for (int p = 0; p < st.n; p++) {
                same += w[p] == w[place] ? 1 : 0;
            }
            many += same == 1 ? 1 : 0;
        }
        return many;
    }

    int turned() {
        for (int k = 0; k < st.n; k++) {
            boolean same = true;
            for (int p = 0; p < st.n; p++) {
                same &= st.truth[(p + k) % st.n] == st.poured[p];
            }
            if (same) {
                return k;
            }
        }
        return NONE;
    }

    int look(int place, int kind) {
        if (!place(place) || !in(kind, 0, 3)) {
            return no(-2);
        }
        int v = st.number(kind, st.truth[place]);
        st.learn(place, kind, v);
        return v;
    }

    int tries(int teller) {
        if (!tellerIs(teller)) {
            return no(-2);
        }
        int looks = 0;
        while (possible().size() != 1) {
            int said = saying(teller);
            if (said == NONE) {
                break;
            }
            if (st.signs.containsKey(said)) {
                break;
            }
            st.learn(said / 10, said % 10, st.number(said % 10, st.truth[said / 10]));
            looks++;
        }
        return looks;
    }

    int stairs() {
        List<int[]> all = all();
        st.seed = (int) (st.seed * 1103515245L + 12345L);
        int i = (int) ((st.seed & 0xffffffffL) / 65536 % all.size());
        st.truth = Arrays.copyOf(all.get(i), 6);
        st.signs.clear();
        return all.size();
    }

    int truth(int s) {
        int[] r = new int[6];
        int f = told(s, r, true);
        if (f < 0) {
            return no(f);
        }
        for (int[] w : all()) {
            if (Arrays.equals(w, Arrays.copyOf(r, st.n))) {
                st.truth = r;
                st.signs.clear();
                return 1;
            }
        }
        return no(-5);
    }

    int stands(int place) {
        return place(place) ? st.truth[place] : no(-2);
    }

    int seed(int v) {
        int was = st.seed;
        st.seed = v;
        return was;
    }

    int image() {
        kept = st.twin();
        return 1;
    }

    int back() {
        if (kept == null) {
            return no(-5);
        }
        st = kept.twin();
        for (int s = 0; s < 8; s++) {
            if (shelves[s] instanceof Integer && !tellerIs((Integer) shelves[s])) {
                shelves[s] = null;
            }
        }
        return 1;
    }

    int status(int what) {
        if (in(what, 12, 16)) {
            return refused[what - 10];
        }
        Set<Integer> unlike = new HashSet<>();
        for (int p = 0; p < st.n; p++) {
            unlike.add(st.poured[p]);
        }
        int held = 0;
        for (Object o : shelves) {
            held += o == null ? 0 : 1;
        }
        int[] told = {st.n, st.law, st.tellers.size(), st.signs.size(), unlike.size(),
            tape.length(), st.seed, held};
        return in(what, 0, 7) ? told[what] : NONE;
    }
}
