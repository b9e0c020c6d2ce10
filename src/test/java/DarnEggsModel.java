import java.util.ArrayDeque;
import java.util.ArrayList;
import java.util.Arrays;
import java.util.HashMap;
import java.util.HashSet;
import java.util.List;
import java.util.Map;
import java.util.Random;
import java.util.Set;
import java.util.TreeMap;
import java.math.BigInteger;

/** Random runs of calls, each answer held against a slow model that was written from the document alone. */
public final class DarnEggsModel {
    private static int wrong = 0;
    private static final String SIGNS = "0123456789;[](),+-*/% abehloprstw\u00e9\u00ff\u0000\nAZ";
    private static final Random RANDOM = new Random(20261118L);

    public static void main(String[] args) {
        int runs = args.length > 0 ? Integer.parseInt(args[0]) : 1500;
        if (args.length > 1) {
            RANDOM.setSeed(Long.parseLong(args[1]));
        }
        for (int run = 0; run < runs && wrong < 20; run++) {
            new Run(run).go();
        }
        if (wrong > 0) {
            System.exit(1);
        }
    }

    // ---- the model -------------------------------------------------------------------------

    static final class Fault extends RuntimeException {
        private static final long serialVersionUID = 1L;
        final int kind;
        final int place;

        Fault(int kind, int place) {
            super(kind + " at " + place, null, false, false);
            this.kind = kind;
            this.place = place;
        }
    }

    /** A token: a word, a number or a sign, with its place. */
    record Token(char kind, String text, int place) {
        boolean is(String t) {
            return kind != 'n' && text.equals(t);
        }
    }

    static List<Token> tokens(String s) {
        List<Token> out = new ArrayList<>();
        int i = 0;
        while (i < s.length()) {
            char c = s.charAt(i);
            int j = i + 1;
            if (c == ' ') {
                i++;
                continue;
            }
            if (c >= 'a' && c <= 'z') {
                while (j < s.length() && s.charAt(j) >= 'a' && s.charAt(j) <= 'z') {
                    j++;
                }
                out.add(new Token('w', s.substring(i, j), i));
            } else if (c >= '0' && c <= '9') {
                while (j < s.length() && s.charAt(j) >= '0' && s.charAt(j) <= '9') {
                    j++;
                }
                out.add(new Token('n', s.substring(i, j), i));
            } else {
                out.add(new Token('s', s.substring(i, j), i));
            }
            i = j;
        }
        out.add(new Token('e', "", s.length()));
        return out;
    }

    static final class Reader {
        final List<Token> tokens;
        int i = 0;

        Reader(String s) {
            tokens = tokens(s);
        }

        Token peek() {
            return tokens.get(i);
        }

        boolean ended() {
            return peek().kind == 'e';
        }

        Token take() {
            return tokens.get(i++);
        }

        void sign(String c) {
            if (!peek().is(c)) {
                throw new Fault(1, peek().place);
            }
            i++;
        }

        int number(int least, int most) {
            Token t = peek();
            if (t.kind != 'n') {
                throw new Fault(1, t.place);
            }
            i++;
            BigInteger b = new BigInteger(t.text);
            if (b.compareTo(BigInteger.valueOf(least)) < 0 || b.compareTo(BigInteger.valueOf(most)) > 0) {
                throw new Fault(2, t.place);
            }
            return b.intValue();
        }
    }

    static final class V {
        final List<Integer> takes = new ArrayList<>();
        final List<Integer> anger = new ArrayList<>();
        final List<Integer> worn = new ArrayList<>();
        final List<int[]> paths = new ArrayList<>();
        int wool = 12;
        int moths = 0;

        boolean joined(int a, int b) {
            for (int[] p : paths) {
                if (p[0] == a && p[1] == b || p[0] == b && p[1] == a) {
                    return true;
                }
            }
            return false;
        }

        static V read(String s) {
            V v = new V();
            Reader r = new Reader(s);
            int clauses = 0;
            while (!r.ended()) {
                Token t = r.take();
                int place = t.place;
                boolean many = ++clauses > 60;
                if (t.kind != 'w') {
                    throw new Fault(1, place);
                }
                switch (t.text) {
                    case "egg":
                        if (many || v.takes.size() == 6) {
                            throw new Fault(3, place);
                        }
                        v.takes.add(r.number(1, 20));
                        break;
                    case "hand":
                        if (many || v.anger.size() == 6) {
                            throw new Fault(3, place);
                        }
                        v.anger.add(r.number(0, 9));
                        break;
                    case "hole":
                        if (many || v.worn.size() == 9) {
                            throw new Fault(3, place);
                        }
                        v.worn.add(r.number(0, 60));
                        break;
                    case "path":
                        if (many || v.paths.size() == 14) {
                            throw new Fault(3, place);
                        }
                        int a = r.number(0, v.worn.size() - 1);
                        int b = r.number(0, v.worn.size() - 1);
                        if (a == b || v.joined(a, b)) {
                            throw new Fault(2, r.tokens.get(r.i - 1).place);
                        }
                        v.paths.add(new int[] {a, b});
                        break;
                    case "wool":
                        if (many) {
                            throw new Fault(3, place);
                        }
                        v.wool = r.number(0, 99);
                        break;
                    case "moths":
                        if (many) {
                            throw new Fault(3, place);
                        }
                        v.moths = r.number(1, 99);
                        break;
                    default:
                        throw new Fault(1, place);
                }
                r.sign(";");
            }
            return v;
        }
    }

    /** A law as a tree. */
    interface Node {
        int value(Map<String, Integer> facts);
    }

    static final class LawReader {
        final Reader r;
        int open = 0;

        LawReader(String s) {
            r = new Reader(s);
        }

        static Node read(String s) {
            LawReader l = new LawReader(s);
            Node n = l.e();
            if (!l.r.ended()) {
                throw new Fault(1, l.r.peek().place);
            }
            return n;
        }

        Node e() {
            Node left = t();
            while (r.peek().is("+") || r.peek().is("-")) {
                boolean plus = r.take().text.equals("+");
                Node a = left;
                Node b = t();
                left = f -> plus ? a.value(f) + b.value(f) : a.value(f) - b.value(f);
            }
            return left;
        }

        Node t() {
            Node left = u();
            while (r.peek().is("*") || r.peek().is("/") || r.peek().is("%")) {
                String op = r.take().text;
                Node a = left;
                Node b = u();
                left = f -> {
                    int x = a.value(f);
                    int y = b.value(f);
                    if (op.equals("*")) {
                        return x * y;
                    }
                    if (y == 0) {
                        return 0;
                    }
                    return op.equals("/") ? (int) ((long) x / y) : (int) ((long) x % y);
                };
            }
            return left;
        }

        void open(int place) {
            if (open == 6) {
                throw new Fault(3, place);
            }
            open++;
        }

        Node u() {
            Token t = r.peek();
            if (t.kind == 'n') {
                int n = r.number(0, 999);
                return f -> n;
            }
            if (t.is("(")) {
                open(t.place);
                r.take();
                Node n = e();
                r.sign(")");
                open--;
                return n;
            }
            if (t.is("least") || t.is("most")) {
                open(t.place);
                r.take();
                r.sign("[");
                Node a = e();
                r.sign(",");
                Node b = e();
                r.sign("]");
                open--;
                return t.is("least") ? f -> Math.min(a.value(f), b.value(f)) : f -> Math.max(a.value(f), b.value(f));
            }
            if (List.of("heels", "anger", "wear", "ridge", "wool", "hooks", "day", "hand").contains(t.text)) {
                r.take();
                return f -> f.get(t.text);
            }
            throw new Fault(1, t.place);
        }
    }

    /** A step: its word, its numbers, what is in its brackets. */
    record Step(String word, int[] numbers, List<Step> inner) { }

    static final class WorkReader {
        final Reader r;
        final V v;

        WorkReader(String s, V v) {
            r = new Reader(s);
            this.v = v;
        }

        static List<Step> read(String s, V v) {
            WorkReader w = new WorkReader(s, v);
            List<Step> out = new ArrayList<>();
            while (!w.r.ended()) {
                out.add(w.step(0));
            }
            return out;
        }

        Step step(int open) {
            Token t = r.peek();
            int[] n = new int[3];
            List<Step> inner = new ArrayList<>();
            int eggs = v.takes.size() - 1;
            int hands = v.anger.size() - 1;
            int holes = v.worn.size() - 1;
            if (t.kind != 'w') {
                throw new Fault(1, t.place);
            }
            r.take();
            switch (t.text) {
                case "darn":
                    n[0] = r.number(0, hands);
                    n[1] = r.number(0, eggs);
                    n[2] = r.number(0, holes);
                    break;
                case "let":
                    n[0] = r.number(0, eggs);
                    n[1] = r.number(0, holes);
                    break;
                case "call":
                    n[0] = r.number(0, eggs);
                    break;
                case "unpick":
                    n[0] = r.number(0, holes);
                    break;
                case "shear":
                    n[0] = r.number(1, 40);
                    break;
                case "day":
                    break;
                case "again":
                    if (open == 6) {
                        throw new Fault(3, t.place);
                    }
                    n[0] = r.number(0, 30);
                    r.sign("[");
                    while (!r.peek().is("]")) {
                        inner.add(step(open + 1));
                    }
                    r.sign("]");
                    break;
                default:
                    throw new Fault(1, t.place);
            }
            r.sign(";");
            return new Step(t.text, n, inner);
        }
    }

    static TreeMap<Integer, Integer> readBook(String s, V v) {
        TreeMap<Integer, Integer> out = new TreeMap<>();
        Reader r = new Reader(s);
        while (!r.ended()) {
            int p = r.number(0, v.worn.size() - 1);
            int place = r.tokens.get(r.i - 1).place;
            if (out.containsKey(p)) {
                throw new Fault(2, place);
            }
            if (out.size() == 8) {
                throw new Fault(3, place);
            }
            out.put(p, r.number(0, 99));
            r.sign(";");
        }
        return out;
    }

    static final class S {
        int[] heels = new int[6];
        int[] hooks = new int[6];
        int[] out = new int[6];
        int[] times = new int[6];
        boolean[] today = new boolean[6];
        int[] wear = new int[9];
        int[] ridge = new int[9];
        int day = 0;
        int wool;

        S(V v) {
            Arrays.fill(out, -1);
            for (int i = 0; i < v.worn.size(); i++) {
                wear[i] = v.worn.get(i);
            }
            wool = v.wool;
        }

        S(S s) {
            heels = s.heels.clone();
            hooks = s.hooks.clone();
            out = s.out.clone();
            times = s.times.clone();
            today = s.today.clone();
            wear = s.wear.clone();
            ridge = s.ridge.clone();
            day = s.day;
            wool = s.wool;
        }

        int sum(int[] row) {
            int n = 0;
            for (int x : row) {
                n += x;
            }
            return n;
        }
    }

    static final class Model {
        String tape = "";
        V v = new V();
        S s = new S(v);
        Node law = null;
        TreeMap<Integer, Integer> book = new TreeMap<>();
        List<S> past = new ArrayList<>();
        List<S> imageStates = new ArrayList<>();
        List<List<S>> imagePasts = new ArrayList<>();
        int fault = -1;
        int refusedLatest = 0;
        int[] status = new int[2];
        int begun;
        int done;
        int refused;

        RuntimeException none() {
            status[0]++;
            return new java.util.NoSuchElementException();
        }

        RuntimeException bad() {
            status[1]++;
            return new IllegalArgumentException();
        }

        void egg(int i) {
            if (i < 0 || i >= v.takes.size()) {
                throw none();
            }
        }

        void hand(int i) {
            if (i < 0 || i >= v.anger.size()) {
                throw none();
            }
        }

        void hole(int i) {
            if (i < 0 || i >= v.worn.size()) {
                throw none();
            }
        }

        void range(int x, int a, int b) {
            if (x < a || x > b) {
                throw bad();
            }
        }

        String text(int n, int most) {
            if (n < 0 || n > tape.length() || n > most) {
                throw bad();
            }
            String t = tape.substring(0, n);
            tape = "";
            fault = -1;
            return t;
        }

        int lawValue(Map<String, Integer> f) {
            int out = law == null ? 3 + f.get("heels") / 2 - f.get("anger") / 3 : law.value(f);
            return out < 0 ? 0 : out > 20 ? 20 : out;
        }

        int mend(S x, int h, int e, int p) {
            Map<String, Integer> f = new HashMap<>();
            f.put("heels", x.heels[e]);
            f.put("anger", v.anger.get(h));
            f.put("wear", x.wear[p]);
            f.put("ridge", x.ridge[p]);
            f.put("wool", x.wool);
            f.put("hooks", x.hooks[e]);
            f.put("day", x.day);
            f.put("hand", h);
            return lawValue(f);
        }

        boolean can(S x, int h, int e, int p) {
            return !(x.wool == 0 || x.heels[e] >= v.takes.get(e) || x.today[h] || x.wear[p] == 0);
        }

        boolean darn(S x, int h, int e, int p) {
            if (!can(x, h, e, p)) {
                return false;
            }
            int m = mend(x, h, e, p);
            if (m > x.wear[p]) {
                x.ridge[p] = Math.min(99, x.ridge[p] + m - x.wear[p]);
                x.wear[p] = 0;
            } else {
                x.wear[p] -= m;
            }
            x.wool--;
            x.heels[e]++;
            if (v.anger.get(h) >= 5) {
                x.hooks[e]++;
            }
            x.times[h]++;
            x.today[h] = true;
            return true;
        }

        boolean let(S x, int e, int p) {
            if (x.heels[e] < v.takes.get(e) || x.out[e] == p) {
                return false;
            }
            x.out[e] = p;
            return true;
        }

        void day(S x) {
            for (int e = 0; e < v.takes.size(); e++) {
                int p = x.out[e];
                if (p == -1) {
                    continue;
                }
                if (x.hooks[e] * 2 > x.heels[e]) {
                    x.wear[p] = Math.min(99, x.wear[p] + 2);
                } else if (x.wear[p] == 0) {
                    x.ridge[p] = Math.min(99, x.ridge[p] + 1);
                } else {
                    x.wear[p] -= 1;
                }
                if (x.wear[p] == 0) {
                    int to = -1;
                    for (int q = v.worn.size() - 1; q >= 0; q--) {
                        if (v.joined(p, q) && x.wear[q] > 0 && (to == -1 || x.wear[q] >= x.wear[to])) {
                            to = q;
                        }
                    }
                    if (to != -1) {
                        x.out[e] = to;
                    }
                }
            }
            x.day++;
            if (v.moths != 0 && x.day % v.moths == 0) {
                for (int p = 0; p < v.worn.size(); p++) {
                    x.wear[p] = Math.min(99, x.wear[p] + 1);
                }
            }
            Arrays.fill(x.today, false);
        }

        boolean one(Step st) {
            int[] n = st.numbers;
            switch (st.word) {
                case "darn":
                    return darn(s, n[0], n[1], n[2]);
                case "let":
                    return let(s, n[0], n[1]);
                case "call":
                    if (s.out[n[0]] == -1) {
                        return false;
                    }
                    s.out[n[0]] = -1;
                    return true;
                case "unpick":
                    int r = s.ridge[n[0]];
                    if (r == 0) {
                        return false;
                    }
                    s.wear[n[0]] = Math.min(99, s.wear[n[0]] + r);
                    s.ridge[n[0]] = 0;
                    s.wool = Math.min(99, s.wool + r / 2);
                    return true;
                case "shear":
                    if (s.wool == 99) {
                        return false;
                    }
                    s.wool = Math.min(99, s.wool + n[0]);
                    return true;
                default:
                    if (s.day >= 600) {
                        return false;
                    }
                    day(s);
                    return true;
            }
        }

        void steps(List<Step> list) {
            for (Step st : list) {
                if (begun == 200) {
                    return;
                }
                begun++;
                if (st.word.equals("again")) {
                    for (int i = 0; i < st.numbers[0]; i++) {
                        steps(st.inner);
                    }
                } else if (one(st)) {
                    done++;
                } else {
                    refused++;
                }
            }
        }

        int bestValue;
        int[] bestWay;

        void best(int e) {
            bestValue = -1;
            bestWay = null;
            int hands = v.anger.size();
            int[][] gain = new int[hands][v.worn.size()];
            for (int h = 0; h < hands; h++) {
                for (int p = 0; p < v.worn.size(); p++) {
                    gain[h][p] = Math.min(s.wear[p], mend(s, h, e, p));
                }
            }
            tryHand(0, new int[hands], 0, 0, gain);
        }

        void tryHand(int h, int[] way, int used, int sum, int[][] gain) {
            if (h == way.length) {
                if (sum > bestValue) {
                    bestValue = sum;
                    bestWay = way.clone();
                }
                return;
            }
            if (!s.today[h]) {
                for (int p = 0; p < v.worn.size(); p++) {
                    if ((used & 1 << p) == 0) {
                        way[h] = p;
                        tryHand(h + 1, way, used | 1 << p, sum + gain[h][p], gain);
                    }
                }
            }
            way[h] = -1;
            tryHand(h + 1, way, used, sum, gain);
        }

        int walk(int from, Set<Integer> targets) {
            Map<String, Integer> seen = new HashMap<>();
            ArrayDeque<Object[]> queue = new ArrayDeque<>();
            Set<Integer> left = new HashSet<>(targets);
            left.remove(from);
            queue.add(new Object[] {from, left, 0});
            while (!queue.isEmpty()) {
                Object[] at = queue.poll();
                int p = (Integer) at[0];
                @SuppressWarnings("unchecked")
                Set<Integer> rest = (Set<Integer>) at[1];
                int d = (Integer) at[2];
                if (rest.isEmpty()) {
                    return d;
                }
                for (int q = 0; q < v.worn.size(); q++) {
                    if (v.joined(p, q)) {
                        Set<Integer> next = new HashSet<>(rest);
                        next.remove(q);
                        if (seen.putIfAbsent(q + ":" + next, d + 1) == null) {
                            queue.add(new Object[] {q, next, d + 1});
                        }
                    }
                }
            }
            return -1;
        }

        List<int[]> fitting() {
            List<int[]> out = new ArrayList<>();
            for (int h = 0; h < v.anger.size(); h++) {
                for (int e = 0; e < v.takes.size(); e++) {
                    boolean ok = true;
                    for (Map.Entry<Integer, Integer> line : book.entrySet()) {
                        int p = line.getKey();
                        ok &= Math.max(0, s.wear[p] - mend(s, h, e, p)) == line.getValue();
                    }
                    if (ok) {
                        out.add(new int[] {h, e});
                    }
                }
            }
            return out;
        }

        int guards() {
            int best = -1;
            for (int set = (1 << v.worn.size()) - 1; set >= 0; set--) {
                boolean ok = true;
                for (int p = 0; p < v.worn.size(); p++) {
                    if (s.wear[p] > 0) {
                        boolean kept = (set & 1 << p) != 0;
                        for (int q = 0; q < v.worn.size(); q++) {
                            kept |= (set & 1 << q) != 0 && v.joined(p, q);
                        }
                        ok &= kept;
                    }
                }
                if (ok && (best == -1 || Integer.bitCount(set) <= Integer.bitCount(best))) {
                    best = set;
                }
            }
            return best;
        }

        S generation(int seed, int q, int days) {
            S x = new S(s);
            long sd = seed & 0xffffffffL;
            for (int d = 0; d < days; d++) {
                if (!v.anger.isEmpty() && !v.takes.isEmpty() && !v.worn.isEmpty()) {
                    int[] by = {v.anger.size(), v.takes.size(), v.worn.size(), 16};
                    int[] got = new int[4];
                    for (int i = 0; i < 4; i++) {
                        sd = (sd * 1103515245L + 12345L) & 0xffffffffL;
                        got[i] = (int) ((sd / 65536) % 32768 % by[i]);
                        if (i == 2) {
                            darn(x, got[0], got[1], got[2]);
                        }
                    }
                    if (got[3] < q) {
                        let(x, got[1], got[2]);
                    }
                }
                day(x);
            }
            return x;
        }

        boolean hatched(S x, int e) {
            return x.heels[e] >= v.takes.get(e);
        }

        int hatchedBits(S x) {
            int b = 0;
            for (int e = 0; e < v.takes.size(); e++) {
                b |= hatched(x, e) ? 1 << e : 0;
            }
            return b;
        }

        int parts() {
            int n = v.worn.size();
            int[] group = new int[n];
            for (int i = 0; i < n; i++) {
                group[i] = i;
            }
            for (int[] p : v.paths) {
                int a = group[p[0]];
                int b = group[p[1]];
                for (int i = 0; i < n; i++) {
                    if (group[i] == a) {
                        group[i] = b;
                    }
                }
            }
            return (int) Arrays.stream(group).distinct().count();
        }

        int woolShare(int hole, int holes, int n) {
            int bound = 0;
            for (int b = 0; b <= 99; b++) {
                int sum = 0;
                for (int p = 0; p < v.worn.size(); p++) {
                    if ((holes & 1 << p) != 0) {
                        sum += Math.min(b, s.wear[p]);
                    }
                }
                if (sum <= n) {
                    bound = b;
                }
            }
            return (holes & 1 << hole) == 0 ? 0 : Math.min(bound, s.wear[hole]);
        }

        int[] looked() {
            int best = -1;
            int bestMany = -1;
            List<int[]> pairs = fitting();
            for (int p = 0; p < v.worn.size(); p++) {
                if (book.containsKey(p)) {
                    continue;
                }
                Map<Integer, Integer> many = new HashMap<>();
                int worst = 0;
                for (int[] pair : pairs) {
                    int left = Math.max(0, s.wear[p] - mend(s, pair[0], pair[1], p));
                    worst = Math.max(worst, many.merge(left, 1, Integer::sum));
                }
                if (best == -1 || worst < bestMany) {
                    best = p;
                    bestMany = worst;
                }
            }
            return new int[] {best, bestMany};
        }

        int[] rests(int a, int w) {
            // what the one has, what the other one has, by (one, other): 0 unpicks, 1 leaves
            int[][] one = {{-w, w}, {a / 2, a}};
            int[][] other = {{-w, a / 2}, {w, a}};
            int many = 0;
            int first = -1;
            int both = 0;
            for (int i = 0; i < 2; i++) {
                for (int j = 0; j < 2; j++) {
                    if (one[1 - i][j] <= one[i][j] && other[i][1 - j] <= other[i][j]) {
                        if (many++ == 0) {
                            first = 10 * i + j;
                            both = one[i][j] + other[i][j];
                        }
                    }
                }
            }
            return new int[] {many, first, both};
        }

        long call(String name, int[] a) {
            switch (name) {
                case "feed":
                    if (tape.length() + 20 > 600) {
                        return -1;
                    }
                    for (int x : a) {
                        for (int b = 3; b >= 0; b--) {
                            tape += (char) (x >>> 8 * b & 255);
                        }
                    }
                    return tape.length();
                case "village":
                case "law":
                case "work":
                case "book":
                    return read(name, a[0]);
                case "fault":
                    return fault;
                case "undo":
                    if (past.isEmpty()) {
                        return -1;
                    }
                    s = past.remove(past.size() - 1);
                    refusedLatest = 0;
                    return past.size();
                case "image":
                    if (imageStates.size() == 3) {
                        return -1;
                    }
                    imageStates.add(new S(s));
                    List<S> copy = new ArrayList<>();
                    past.forEach(x -> copy.add(new S(x)));
                    imagePasts.add(copy);
                    return imageStates.size();
                case "restore":
                    if (imageStates.isEmpty()) {
                        return -1;
                    }
                    s = imageStates.remove(imageStates.size() - 1);
                    past = imagePasts.remove(imagePasts.size() - 1);
                    refusedLatest = 0;
                    return imageStates.size();
                case "status":
                    return a[0] == 0 || a[0] == 1 ? status[a[0]] : -1;
                case "count":
                    return a[0] == 0 ? imageStates.size() : a[0] == 1 ? tape.length() : a[0] == 2 ? past.size() : -1;
                default:
                    return ask(name, a);
            }
        }

        long read(String name, int n) {
            String t = text(n, name.equals("village") ? 600 : name.equals("book") ? 60 : 150);
            try {
                switch (name) {
                    case "village":
                        v = V.read(t);
                        s = new S(v);
                        law = null;
                        book = new TreeMap<>();
                        past.clear();
                        imageStates.clear();
                        imagePasts.clear();
                        refusedLatest = 0;
                        return v.worn.size();
                    case "law":
                        law = LawReader.read(t);
                        return 1;
                    case "book":
                        book = readBook(t, v);
                        return book.size();
                    default:
                        if (past.size() == 16) {
                            return -20;
                        }
                        List<Step> list = WorkReader.read(t, v);
                        past.add(new S(s));
                        begun = 0;
                        done = 0;
                        refused = 0;
                        steps(list);
                        refusedLatest = refused;
                        return done;
                }
            } catch (Fault f) {
                fault = f.place;
                return f.kind - 10;
            }
        }

        long ask(String name, int[] a) {
            int eggs = v.takes.size();
            int hands = v.anger.size();
            int holes = v.worn.size();
            int bits = 0;
            S x = new S(s);
            switch (name) {
                case "told":
                    range(a[0], 0, 11);
                    for (int i = 0; i < 6; i++) {
                        if (a[0] == 7 && s.out[i] != -1 || a[0] == 8 && s.today[i]) {
                            bits |= 1 << i;
                        }
                    }
                    return new int[] {eggs, hands, holes, v.paths.size(), s.day, s.wool, hatchedBits(s), bits, bits,
                        s.sum(s.wear), book.size(), refusedLatest}[a[0]];
                case "egg":
                    egg(a[0]);
                    range(a[1], 0, 5);
                    int e = a[0];
                    return new int[] {v.takes.get(e), s.heels[e], s.hooks[e], s.out[e],
                        s.hooks[e] * 2 > s.heels[e] ? 1 : 0, v.takes.get(e) - s.heels[e]}[a[1]];
                case "hand":
                    hand(a[0]);
                    range(a[1], 0, 2);
                    return new int[] {v.anger.get(a[0]), s.today[a[0]] ? 1 : 0, s.times[a[0]]}[a[1]];
                case "hole":
                    hole(a[0]);
                    range(a[1], 0, 4);
                    for (int i = 0; i < 9; i++) {
                        if (a[1] == 3 && v.joined(a[0], i) || a[1] == 4 && i < 6 && s.out[i] == a[0]) {
                            bits |= 1 << i;
                        }
                    }
                    return new int[] {s.wear[a[0]], s.ridge[a[0]], v.worn.get(a[0]), bits, bits}[a[1]];
                case "path":
                    if (a[0] < 0 || a[0] >= v.paths.size()) {
                        throw none();
                    }
                    range(a[1], 0, 1);
                    return v.paths.get(a[0])[a[1]];
                case "mend":
                    hand(a[0]);
                    egg(a[1]);
                    hole(a[2]);
                    return mend(s, a[0], a[1], a[2]);
                case "would":
                    int[] most = {20, 9, 99, 99, 99, 20, 600, 5};
                    String[] names = {"heels", "anger", "wear", "ridge", "wool", "hooks", "day", "hand"};
                    Map<String, Integer> f = new HashMap<>();
                    for (int i = 0; i < 8; i++) {
                        range(a[i], 0, most[i]);
                        f.put(names[i], a[i]);
                    }
                    return lawValue(f);
                case "can":
                    hand(a[0]);
                    egg(a[1]);
                    hole(a[2]);
                    return can(s, a[0], a[1], a[2]) ? 1 : 0;
                case "ahead":
                    range(a[0], 0, 99);
                    range(a[1], 0, 2);
                    for (int i = 0; i < a[0]; i++) {
                        day(x);
                    }
                    for (int p = 0; p < holes; p++) {
                        bits |= x.wear[p] == 0 ? 1 << p : 0;
                    }
                    return new int[] {x.sum(x.wear), x.sum(x.ridge), bits}[a[1]];
                case "whole":
                    hole(a[0]);
                    for (int i = 0; i <= 200; i++) {
                        if (x.wear[a[0]] == 0) {
                            return i;
                        }
                        day(x);
                    }
                    return -1;
                case "best":
                    egg(a[0]);
                    best(a[0]);
                    return bestValue;
                case "given":
                    egg(a[0]);
                    hand(a[1]);
                    best(a[0]);
                    return bestWay[a[1]];
                default:
                    return askMore(name, a);
            }
        }

        long askMore(String name, int[] a) {
            int eggs = v.takes.size();
            int holes = v.worn.size();
            S x = new S(s);
            switch (name) {
                case "round":
                    hole(a[0]);
                    Set<Integer> worn = new HashSet<>();
                    for (int p = 0; p < holes; p++) {
                        if (s.wear[p] > 0) {
                            worn.add(p);
                        }
                    }
                    return walk(a[0], worn);
                case "guards":
                    return guards();
                case "way":
                    hole(a[0]);
                    hole(a[1]);
                    return walk(a[0], Set.of(a[1]));
                case "fits":
                    range(a[0], 0, 1);
                    List<int[]> fit = fitting();
                    return a[0] == 0 ? fit.size() : fit.isEmpty() ? -1 : fit.get(0)[0] * 10 + fit.get(0)[1];
                case "look":
                    range(a[0], 0, 1);
                    return looked()[a[0]];
                case "first":
                    range(a[0], 1, 12);
                    range(a[1], 0, 16);
                    range(a[2], 0, 1);
                    BigInteger up = BigInteger.valueOf(16 - a[1]).pow(a[0] - 1).multiply(BigInteger.valueOf(a[1]));
                    BigInteger down = BigInteger.valueOf(16).pow(a[0]);
                    return (a[2] == 0 ? up : down).divide(up.gcd(down)).longValueExact();
                case "ridge":
                    range(a[0], 0, 99);
                    range(a[1], 0, 99);
                    range(a[2], 0, 2);
                    return rests(a[0], a[1])[a[2]];
                case "wool":
                    hole(a[0]);
                    if (a[1] < 0 || a[1] >= 1 << holes) {
                        throw bad();
                    }
                    range(a[2], 0, 999);
                    return woolShare(a[0], a[1], a[2]);
                case "worst":
                case "ridges":
                    range(a[0], 0, 1);
                    int[] row = name.equals("worst") ? s.wear : s.ridge;
                    int top = Arrays.stream(row).max().getAsInt();
                    int at = -1;
                    for (int p = 8; p >= 0; p--) {
                        at = top > 0 && row[p] == top ? p : at;
                    }
                    if (name.equals("worst")) {
                        return a[0] == 0 ? at : at == -1 ? -1 : top;
                    }
                    return a[0] == 0 ? s.sum(row) : at;
                case "goes":
                    egg(a[0]);
                    day(x);
                    return x.out[a[0]];
                case "parts":
                    return parts();
                case "generation":
                    range(a[1], 0, 16);
                    range(a[2], 1, 96);
                    range(a[3], 0, 3);
                    S g = generation(a[0], a[1], a[2]);
                    return new int[] {g.sum(g.wear), g.sum(g.ridge), hatchedBits(g), g.wool}[a[3]];
                case "span":
                    range(a[1], 1, 20);
                    range(a[2], 0, 16);
                    range(a[3], 1, 96);
                    range(a[4], 0, 2);
                    int least = 100000;
                    int most = -1;
                    int all = 0;
                    for (int i = 0; i < a[1]; i++) {
                        S end = generation(a[0] + i, a[2], a[3]);
                        least = Math.min(least, end.sum(end.wear));
                        most = Math.max(most, end.sum(end.wear));
                        all += Integer.bitCount(hatchedBits(end)) == eggs ? 1 : 0;
                    }
                    return new int[] {least, most, all}[a[4]];
                default:
                    throw new AssertionError(name);
            }
        }
    }

    // ---- the program -----------------------------------------------------------------------

    static long program(DarnEggs x, String name, int[] a) {
        switch (name) {
            case "feed": return x.feed(a[0], a[1], a[2], a[3], a[4]);
            case "village": return x.village(a[0]);
            case "law": return x.law(a[0]);
            case "work": return x.work(a[0]);
            case "book": return x.book(a[0]);
            case "fault": return x.fault();
            case "undo": return x.undo();
            case "told": return x.told(a[0]);
            case "egg": return x.egg(a[0], a[1]);
            case "hand": return x.hand(a[0], a[1]);
            case "hole": return x.hole(a[0], a[1]);
            case "path": return x.path(a[0], a[1]);
            case "mend": return x.mend(a[0], a[1], a[2]);
            case "would": return x.would(a[0], a[1], a[2], a[3], a[4], a[5], a[6], a[7]);
            case "can": return x.can(a[0], a[1], a[2]) ? 1 : 0;
            case "ahead": return x.ahead(a[0], a[1]);
            case "whole": return x.whole(a[0]);
            case "best": return x.best(a[0]);
            case "given": return x.given(a[0], a[1]);
            case "round": return x.round(a[0]);
            case "guards": return x.guards();
            case "way": return x.way(a[0], a[1]);
            case "fits": return x.fits(a[0]);
            case "look": return x.look(a[0]);
            case "first": return x.first(a[0], a[1], a[2]);
            case "ridge": return x.ridge(a[0], a[1], a[2]);
            case "wool": return x.wool(a[0], a[1], a[2]);
            case "worst": return x.worst(a[0]);
            case "goes": return x.goes(a[0]);
            case "parts": return x.parts();
            case "ridges": return x.ridges(a[0]);
            case "generation": return x.generation(a[0], a[1], a[2], a[3]);
            case "span": return x.span(a[0], a[1], a[2], a[3], a[4]);
            case "image": return x.image();
            case "restore": return x.restore();
            case "status": return x.status(a[0]);
            case "count": return x.count(a[0]);
            default: throw new AssertionError(name);
        }
    }

    // ---- random runs -----------------------------------------------------------------------

    static int upTo(int n) {
        return RANDOM.nextInt(n + 1);
    }

    static boolean chance(int percent) {
        return RANDOM.nextInt(100) < percent;
    }

    static final class Run {
        final int number;
        final DarnEggs x = new DarnEggs();
        final Model m = new Model();
        final List<String> log = new ArrayList<>();
        int calls = 0;

        Run(int number) {
            this.number = number;
        }

        void go() {
            if (chance(90)) {
                text("village", village());
            }
            while (calls < 460 && wrong < 20) {
                int r = upTo(99);
                if (r < 2) {
                    text("village", chance(50) ? village() : spoil(village()));
                } else if (r < 7) {
                    text("law", chance(70) ? sum(0) : spoil(sum(0)));
                } else if (r < 22) {
                    text("work", chance(85) ? work() : spoil(work()));
                } else if (r < 27) {
                    text("book", chance(80) ? book() : spoil(book()));
                } else {
                    ask();
                }
            }
        }

        void text(String name, String t) {
            int most = name.equals("village") ? 600 : name.equals("book") ? 60 : 150;
            if (t.length() > most && chance(90)) {
                t = t.substring(0, most);
            }
            log.add(name + " \"" + t + "\"");
            for (int i = 0; i < t.length(); i += 20) {
                int[] a = new int[5];
                for (int j = 0; j < 20; j++) {
                    int c = i + j < t.length() ? t.charAt(i + j) : upTo(255);
                    a[j / 4] = a[j / 4] << 8 | c;
                }
                call("feed", a);
            }
            call(name, chance(2) ? RANDOM.nextInt() : chance(2) ? t.length() + upTo(20) : t.length());
            call("fault");
            if (name.equals("work")) {
                call("told", 11);
            }
        }

        void call(String name, int... a) {
            String got;
            String due;
            calls++;
            try {
                got = "" + program(x, name, a);
            } catch (RuntimeException e) {
                got = e.getClass().getName();
            }
            try {
                due = "" + m.call(name, a);
            } catch (RuntimeException e) {
                due = e.getClass().getName();
            }
            log.add(name + Arrays.toString(a) + " -> " + got);
            if (!got.equals(due)) {
                wrong++;
                System.out.println("run " + number + ": " + name + Arrays.toString(a)
                        + " answered " + got + ", due is " + due);
                if (wrong == 1) {
                    log.forEach(l -> System.out.println("    " + l));
                }
            }
        }

        int some(int n) {
            return chance(3) ? (chance(50) ? -1 - upTo(3) : n + upTo(3)) : n == 0 ? 0 : upTo(n - 1);
        }

        int egg() {
            return some(m.v.takes.size());
        }

        int hand() {
            return some(m.v.anger.size());
        }

        int hole() {
            return some(m.v.worn.size());
        }

        void ask() {
            switch (upTo(35)) {
                case 0: call("undo"); break;
                case 1: call("told", some(12)); break;
                case 2: call("egg", egg(), some(6)); break;
                case 3: call("hand", hand(), some(3)); break;
                case 4: call("hole", hole(), some(5)); break;
                case 5: call("path", some(m.v.paths.size()), some(2)); break;
                case 6: call("mend", hand(), egg(), hole()); break;
                case 7: call("would", some(21), some(10), some(100), some(100), some(100), some(21), some(601), some(6)); break;
                case 8: call("can", hand(), egg(), hole()); break;
                case 9: call("ahead", some(100), some(3)); break;
                case 10: call("whole", hole()); break;
                case 11: if (chance(20)) { call("best", egg()); } break;
                case 12: if (chance(20)) { call("given", egg(), hand()); } break;
                case 13: if (chance(30)) { call("round", hole()); } break;
                case 14: call("guards"); break;
                case 15: call("way", hole(), hole()); break;
                case 16: call("fits", some(2)); break;
                case 17: call("look", some(2)); break;
                case 18: call("first", some(14), some(18), some(2)); break;
                case 19: call("ridge", some(100), some(100), some(3)); break;
                case 20: call("ridge", some(4), some(4), some(3)); break;
                case 21: call("wool", hole(), some(1 << m.v.worn.size()), some(chance(50) ? 1000 : 100)); break;
                case 22: call("worst", some(2)); break;
                case 23: call("goes", egg()); break;
                case 24: call("parts"); break;
                case 25: call("ridges", some(2)); break;
                case 26: call("generation", RANDOM.nextInt(), some(17), some(97), some(4)); break;
                case 27: call("span", RANDOM.nextInt(), some(21), some(17), some(97), some(3)); break;
                case 28: call("image"); break;
                case 29: call("restore"); break;
                case 30: call("status", some(3)); break;
                case 31: call("count", some(4)); break;
                case 32: call("feed", RANDOM.nextInt(), RANDOM.nextInt(), 0, -1, 1); break;
                case 33: if (chance(20)) { for (int i = 0; i < 17; i++) { text("work", "day;"); } } break;
                case 34: if (chance(20)) { goFar(); } break;
                default: call("fault"); break;
            }
        }

        /** To DAY 600 and beyond, and agains one in another. */
        void goFar() {
            if (chance(50)) {
                for (int i = 0; i < 4; i++) {
                    text("work", "again 30[again 30[day;];];");
                }
                return;
            }
            int deep = 5 + upTo(2);
            StringBuilder b = new StringBuilder();
            for (int i = 0; i < deep; i++) {
                b.append("again ").append(upTo(3)).append('[');
            }
            b.append("day;");
            for (int i = 0; i < deep; i++) {
                b.append("];");
            }
            text("work", b.toString());
        }

        String blank() {
            return chance(15) ? "  ".substring(upTo(1)) : "";
        }

        String n(int value) {
            return " " + blank() + (chance(4) ? "0" : "") + value;
        }

        String village() {
            StringBuilder b = new StringBuilder();
            int holes = 0;
            int clauses = chance(5) ? 61 : 5 + upTo(25);
            for (int i = 0; i < clauses; i++) {
                b.append(blank());
                int r = upTo(99);
                if (r < 15) {
                    b.append("egg").append(n(1 + upTo(chance(70) ? 3 : 19)));
                } else if (r < 30) {
                    b.append("hand").append(n(upTo(9)));
                } else if (r < 58) {
                    b.append("hole").append(n(chance(25) ? 0 : upTo(chance(50) ? 9 : 60)));
                    holes++;
                } else if (r < 92 && holes > 1) {
                    int a = upTo(holes - 1);
                    int c = upTo(holes - 1);
                    b.append("path").append(n(a)).append(n(chance(97) && a == c ? (a + 1) % holes : c));
                } else if (r < 96) {
                    b.append("wool").append(n(upTo(99)));
                } else {
                    b.append("moths").append(n(1 + upTo(chance(50) ? 3 : 98)));
                }
                b.append(blank()).append(';');
            }
            String t = b + blank();
            // Most random villages tell something too often; what is told too often is left out again.
            for (int i = 0; i < 80 && chance(95); i++) {
                try {
                    V.read(t);
                    break;
                } catch (Fault f) {
                    int from = t.lastIndexOf(';', Math.max(0, f.place - 1)) + 1;
                    int to = t.indexOf(';', f.place);
                    if (to < 0) {
                        break;
                    }
                    t = t.substring(0, from) + t.substring(to + 1);
                }
            }
            return t;
        }

        String sum(int depth) {
            StringBuilder b = new StringBuilder(product(depth));
            while (chance(35)) {
                b.append(blank()).append(chance(50) ? '+' : '-').append(product(depth));
            }
            return b.toString();
        }

        String product(int depth) {
            StringBuilder b = new StringBuilder(unit(depth));
            while (chance(30)) {
                b.append(blank()).append("*/%".charAt(upTo(2))).append(unit(depth));
            }
            return b.toString();
        }

        String unit(int depth) {
            String ahead = blank();
            int r = upTo(99);
            if (r < 30 || depth > 7) {
                return ahead + (chance(2) ? upTo(1100) : upTo(chance(80) ? 9 : 999));
            }
            if (r < 75) {
                return ahead + new String[] {"heels", "anger", "wear", "ridge", "wool", "hooks", "day", "hand"}[upTo(7)];
            }
            if (r < 88) {
                return ahead + "(" + sum(depth + 1) + blank() + ")";
            }
            return ahead + (chance(50) ? "least" : "most") + blank() + "[" + sum(depth + 1) + blank() + ","
                    + sum(depth + 1) + blank() + "]";
        }

        String work() {
            StringBuilder b = new StringBuilder();
            int many = 1 + upTo(14);
            for (int i = 0; i < many; i++) {
                String s = step(0);
                if (b.length() + s.length() <= 150 || chance(2)) {
                    b.append(s);
                }
            }
            return b + blank();
        }

        String step(int depth) {
            int e = egg();
            int h = hand();
            int p = hole();
            String end = blank() + ";";
            int r = upTo(99);
            if (r < 45) {
                return blank() + "darn" + n(Math.max(0, h)) + n(Math.max(0, e)) + n(Math.max(0, p)) + end;
            }
            if (r < 58) {
                return blank() + "let" + n(Math.max(0, e)) + n(Math.max(0, p)) + end;
            }
            if (r < 62) {
                return blank() + "call" + n(Math.max(0, e)) + end;
            }
            if (r < 67) {
                return blank() + "unpick" + n(Math.max(0, p)) + end;
            }
            if (r < 70) {
                return blank() + "shear" + n(some(41)) + end;
            }
            if (r < 88 || depth > 7) {
                return blank() + "day" + end;
            }
            StringBuilder b = new StringBuilder(blank() + "again" + n(Math.max(0, some(chance(60) ? 5 : 31))) + blank() + "[");
            int many = upTo(3);
            for (int i = 0; i < many; i++) {
                b.append(step(depth + 1));
            }
            return b + blank() + "]" + end;
        }

        String book() {
            StringBuilder b = new StringBuilder();
            int many = chance(10) ? 9 : upTo(4);
            for (int i = 0; i < many; i++) {
                int p = many == 9 ? i : Math.max(0, hole());
                int w = p < 9 && chance(70) ? Math.max(0, m.s.wear[p] - upTo(4)) : upTo(99);
                b.append(blank()).append(p).append(n(w)).append(blank()).append(';');
            }
            return b + blank();
        }

        String spoil(String t) {
            StringBuilder b = new StringBuilder(t);
            int many = 1 + upTo(2);
            for (int i = 0; i < many; i++) {
                int at = upTo(b.length());
                int r = upTo(3);
                if (r == 0 && at < b.length()) {
                    b.deleteCharAt(at);
                } else if (r == 1) {
                    b.insert(at, SIGNS.charAt(upTo(SIGNS.length() - 1)));
                } else if (r == 2 && at < b.length()) {
                    b.setCharAt(at, SIGNS.charAt(upTo(SIGNS.length() - 1)));
                } else if (r == 3) {
                    b.setLength(at);
                }
            }
            return b.toString();
        }
    }
}
