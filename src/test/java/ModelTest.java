import java.util.ArrayList;
import java.util.HashMap;
import java.util.List;
import java.util.Map;
import java.util.Random;
import java.util.TreeSet;

/** Random runs of calls on NextButOne and on a second, plainer writing of the document: both must answer alike. */
public final class ModelTest extends Check {
    /** The document's findings, thrown: the model may throw, the class may not. */
    static final class Found extends RuntimeException {
        private static final long serialVersionUID = 1L;
        final int answer;

        Found(int answer) {
            super(null, null, false, false);
            this.answer = answer;
        }
    }

    static void ask(boolean right, int finding) {
        if (!right) {
            throw new Found(finding);
        }
    }

    static final class One {
        int kind;
        int age;
        int sort;
        int kin;
        int ruled;
        boolean dead;

        One twin() {
            One o = new One();
            o.kind = kind;
            o.age = age;
            o.sort = sort;
            o.kin = kin;
            o.ruled = ruled;
            o.dead = dead;
            return o;
        }
    }

    /** Section 1 of the terms; trials are whole copies. */
    static final class World {
        final List<One> people = new ArrayList<>();
        final int[][] likes = new int[10][10];
        final int[][] worth = new int[4][4];
        final int[] rules = {2, 7, 0, 0, 0, 2};
        Integer sits = null;
        int reign = 0;
        final List<Integer> line = new ArrayList<>();
        int z = 1;
        String text = null;
        boolean inFollows = false;
        int[] word = null;

        World() {
            line.add(null);
            line.add(null);
        }

        World twin() {
            World w = new World();
            for (One o : people) {
                w.people.add(o.twin());
            }
            for (int i = 0; i < 10; i++) {
                w.likes[i] = likes[i].clone();
            }
            for (int i = 0; i < 4; i++) {
                w.worth[i] = worth[i].clone();
            }
            System.arraycopy(rules, 0, w.rules, 0, 6);
            w.sits = sits;
            w.reign = reign;
            w.line.clear();
            w.line.addAll(line);
            w.z = z;
            w.text = text;
            w.inFollows = inFollows;
            w.word = word;
            return w;
        }

        void ahead(int k) {
            rules[0] = k;
            while (line.size() > k) {
                line.remove(line.size() - 1);
            }
            while (line.size() < k) {
                line.add(null);
            }
        }

        boolean sits(int p) {
            return sits != null && sits == p;
        }

        boolean may(int p, int q) {
            if (people.get(q).dead || line.contains(q)) {
                return false;
            }
            if (p == q) {
                return sits(p) && rules[2] == 1;
            }
            boolean kin = (people.get(p).kin & (1 << q)) != 0;
            return !sits(q) && (!kin || rules[3] == 1);
        }

        Integer firstNamed() {
            for (Integer i : line) {
                if (i != null) {
                    return i;
                }
            }
            return null;
        }

        Integer would(int p) {
            List<Integer> open = new ArrayList<>();
            List<Integer> own = new ArrayList<>();
            for (int q = 0; q < people.size(); q++) {
                if (may(p, q)) {
                    open.add(q);
                    if (people.get(q).sort == people.get(p).sort) {
                        own.add(q);
                    }
                }
            }
            Integer first = firstNamed();
            int kind = people.get(p).kind;
            Map<Integer, Long> by = new HashMap<>();
            List<Integer> from = kind == 4 && !own.isEmpty() ? own : open;
            for (int q : from) {
                long v = likes[p][q];
                if (kind == 1 && first != null) {
                    v = likes[first][q];
                } else if (kind == 2 && first != null) {
                    v = -likes[first][q];
                } else if (kind == 3) {
                    v = people.get(q).age;
                } else if (kind == 5 && text != null) {
                    v = gives(p, q);
                } else if (kind == 6 && !inFollows) {
                    v = follows(p, q);
                }
                by.put(q, v);
            }
            Integer best = null;
            for (int q : from) {
                if (best == null || by.get(q) > by.get(best)) {
                    best = q;
                }
            }
            return best;
        }

        int follows(int p, int q) {
            World t = twin();
            t.inFollows = true;
            t.word = null;
            t.line.set(t.line.size() - 1, q);
            int sum = 0;
            for (int i = 0; i < rules[0] + 2; i++) {
                t.come();
                if (t.sits != null) {
                    sum += worth[people.get(t.sits).sort][people.get(p).sort];
                }
            }
            return sum;
        }

        void come() {
            sits = null;
            reign = 0;
            if (rules[4] == 0) {
                for (int i = 0; i < rules[0] && sits == null; i++) {
                    sits = line.remove(0);
                    line.add(null);
                }
            } else {
                sits = line.remove(0);
                line.add(null);
            }
            if (sits == null) {
                return;
            }
            people.get(sits).ruled++;
            if (rules[4] == 1) {
                for (int i = 0; i < line.size(); i++) {
                    if (line.get(i) == null) {
                        line.set(i, names(sits));
                    }
                }
            } else {
                line.set(line.size() - 1, names(sits));
            }
        }

        Integer names(int p) {
            if (word != null && word[0] == p && may(p, word[1])) {
                return word[1];
            }
            if (word != null && word[1] == p && may(p, word[0])) {
                return word[0];
            }
            return would(p);
        }

        boolean year() {
            for (One o : people) {
                if (!o.dead) {
                    o.age = Math.min(99, o.age + 1);
                }
            }
            reign += sits == null ? 0 : 1;
            for (int p = 0; p < people.size(); p++) {
                One o = people.get(p);
                if (o.dead) {
                    continue;
                }
                z = (int) (z * 1103515245L + 12345L);
                long lot = (z & 0xffffffffL) / 256 % 1000;
                if (o.age > 40 && lot < rules[5] * (o.age - 40)) {
                    o.dead = true;
                    for (int i = 0; i < line.size(); i++) {
                        if (line.get(i) != null && line.get(i) == p) {
                            line.set(i, null);
                        }
                    }
                    if (sits(p)) {
                        sits = null;
                    }
                }
            }
            if (sits == null || reign >= rules[1]) {
                come();
                return sits != null;
            }
            return false;
        }

        int gives(int p, int q) {
            return new Works(this, p, q).all();
        }

        String mark() {
            return sits + " " + line;
        }
    }

    /** THE TEXT worked out from its own letters, in longs cut to ints at each step. */
    static final class Works {
        final World w;
        final int p;
        final int q;
        final String t;
        int at = 0;

        Works(World w, int p, int q) {
            this.w = w;
            this.p = p;
            this.q = q;
            this.t = w.text;
        }

        int all() {
            return level(0);
        }

        static final String[] OPS = {"|", "&", "<=>", "+-", "*/%"};

        int level(int k) {
            if (k == 5) {
                return unit();
            }
            int v = level(k + 1);
            while (at < t.length() && OPS[k].indexOf(t.charAt(at)) >= 0) {
                char op = t.charAt(at++);
                v = apply(op, v, level(k + 1));
            }
            return v;
        }

        static int apply(char op, long a, long b) {
            switch (op) {
                case '|':
                    return a != 0 || b != 0 ? 1 : 0;
                case '&':
                    return a != 0 && b != 0 ? 1 : 0;
                case '<':
                    return a < b ? 1 : 0;
                case '=':
                    return a == b ? 1 : 0;
                case '>':
                    return a > b ? 1 : 0;
                case '+':
                    return (int) (a + b);
                case '-':
                    return (int) (a - b);
                case '*':
                    return (int) (a * b);
                case '/':
                    return b == 0 ? 0 : (int) (a / b);
                default:
                    return b == 0 ? 0 : (int) (a % b);
            }
        }

        int unit() {
            char c = t.charAt(at);
            if (Character.isDigit(c)) {
                int from = at;
                while (at < t.length() && Character.isDigit(t.charAt(at))) {
                    at++;
                }
                return Integer.parseInt(t.substring(from, at));
            }
            at++;
            switch (c) {
                case '!':
                    return unit() == 0 ? 1 : 0;
                case '-':
                    return (int) -(long) unit();
                case '(':
                    int v = level(0);
                    at++;
                    return v;
                case 'l':
                    return p == q ? 0 : w.likes[p][q];
                case 'a':
                    return w.people.get(q).age;
                case 's':
                    return w.people.get(p).sort == w.people.get(q).sort ? 1 : 0;
                case 'w':
                    return w.worth[w.people.get(q).sort][w.people.get(p).sort];
                case 'r':
                    return w.people.get(q).ruled;
                default:
                    Integer f = w.firstNamed();
                    return f == null || f == q ? 0 : w.likes[f][q];
            }
        }
    }

    /** Which spans of a tape are a T, an A .. by the grammar's own words; no reading from left to right. */
    static final class Grammar {
        final String t;
        final Map<Integer, Boolean> known = new HashMap<>();

        Grammar(String t) {
            this.t = t;
        }

        static boolean isText(String t) {
            return new Grammar(t).is(0, 0, t.length(), 0);
        }

        /** Completions of a beginning that is good end soon: at most a NAME, and what is open is closed. */
        static boolean goesOn(String t) {
            StringBuilder close = new StringBuilder();
            for (int k = 0; k <= 5; k++) {
                if (isText(t + close) || isText(t + "l" + close)) {
                    return true;
                }
                close.append(')');
            }
            return false;
        }

        static int fault(String t) {
            for (int i = 0; i < t.length(); i++) {
                if (!goesOn(t.substring(0, i + 1))) {
                    return i;
                }
            }
            return isText(t) ? -1 : t.length();
        }

        boolean is(int level, int from, int to, int open) {
            if (from >= to || open > 5) {
                return false;
            }
            int key = ((level * 100 + from) * 100 + to) * 10 + open;
            Boolean was = known.get(key);
            if (was == null) {
                was = level == 5 ? isUnit(from, to, open) : isJoined(level, from, to, open);
                known.put(key, was);
            }
            return was;
        }

        boolean isJoined(int level, int from, int to, int open) {
            if (is(level + 1, from, to, open)) {
                return true;
            }
            for (int i = from + 1; i < to - 1; i++) {
                int left = level == 2 ? 3 : level;
                if (Works.OPS[level].indexOf(t.charAt(i)) >= 0 && is(level + 1, i + 1, to, open) && is(left, from, i, open)) {
                    return true;
                }
            }
            return false;
        }

        boolean isUnit(int from, int to, int open) {
            String u = t.substring(from, to);
            char c = u.charAt(0);
            if (u.matches("[0-9]{1,4}") || u.matches("[laswrn]")) {
                return true;
            }
            if (c == '!' || c == '-') {
                return is(5, from + 1, to, open + 1) && open < 5;
            }
            return c == '(' && u.endsWith(")") && open < 5 && is(0, from + 1, to - 1, open + 1);
        }
    }

    /** The public face, written from the promises. */
    static final class Model {
        World w = new World();
        World kept = null;
        String tape = "";
        final long[][] sheets = new long[4][];
        final int[] bits = new int[4];
        final int[] found = new int[7];

        boolean one(int p) {
            return p >= 0 && p < w.people.size();
        }

        static boolean in(int v, int a, int b) {
            return a <= v && v <= b;
        }

        static int no(Integer i) {
            return i == null ? -1 : i;
        }

        boolean alive(int p) {
            return !w.people.get(p).dead;
        }

        List<Integer> chairs(World t, int n) {
            List<Integer> who = new ArrayList<>();
            for (int i = 0; i < n; i++) {
                t.come();
                who.add(t.sits);
            }
            return who;
        }

        int worthOf(List<Integer> who, int sort) {
            int sum = 0;
            for (Integer i : who) {
                sum += i == null ? 0 : w.worth[w.people.get(i).sort][sort];
            }
            return sum;
        }

        int keptOf(int a, int b, int n) {
            World t = w.twin();
            t.word = new int[] {a, b};
            int sort = w.people.get(a).sort;
            return worthOf(chairs(t, n), sort) - worthOf(chairs(w.twin(), n), sort);
        }

        int[] round() {
            World t = w.twin();
            List<String> marks = new ArrayList<>();
            List<Integer> who = new ArrayList<>();
            marks.add(t.mark());
            for (int i = 1; i <= 300; i++) {
                t.come();
                who.add(t.sits);
                int j = marks.indexOf(t.mark());
                if (j >= 0) {
                    int set = 0;
                    for (Integer p : new TreeSet<>(nonNull(who.subList(j, i)))) {
                        set += 1 << p;
                    }
                    return new int[] {j, i - j, set};
                }
                marks.add(t.mark());
            }
            throw new Found(NONE);
        }

        static List<Integer> nonNull(List<Integer> from) {
            List<Integer> to = new ArrayList<>(from);
            to.removeIf(i -> i == null);
            return to;
        }

        long cut(int s, long v) {
            return bits[s] == 8 ? (v << 56) >> 56 : bits[s] == 16 ? (v << 48) >> 48 : v;
        }

        long call(int f, int a, int b, int c, int d, int e) {
            try {
                return f < 16 ? people(f, a, b, c) : f < 26 ? ahead(f, a, b, c) : rest(f, a, b, c, d, e);
            } catch (Found x) {
                found[BEYOND - x.answer]++;
                return x.answer;
            }
        }

        long people(int f, int a, int b, int c) {
            int was;
            switch (f) {
                case 0:
                    ask(in(a, 0, 6) && in(b, 20, 99) && in(c, 0, 3), BEYOND);
                    ask(w.people.size() < 10, FULL);
                    One o = new One();
                    o.kind = a;
                    o.age = b;
                    o.sort = c;
                    w.people.add(o);
                    return w.people.size() - 1;
                case 1:
                    ask(one(a) && in(b, 0, 7), BEYOND);
                    One x = w.people.get(a);
                    int[] all = {x.kind, x.age, x.sort, x.kin, x.ruled, x.dead ? 1 : 0, w.line.indexOf(a)};
                    return b < 7 ? all[b] : no(w.would(a));
                case 2:
                    ask(one(a) && in(b, 0, 3), BEYOND);
                    One y = w.people.get(a);
                    if (b == 0) {
                        ask(in(c, 0, 6), BEYOND);
                        was = y.kind;
                        y.kind = c;
                    } else if (b == 1) {
                        ask(in(c, 20, 99), BEYOND);
                        was = y.age;
                        y.age = c;
                    } else if (b == 2) {
                        ask(in(c, 0, 3), BEYOND);
                        was = y.sort;
                        y.sort = c;
                    } else {
                        ask(in(c, 0, 1023), BEYOND);
                        was = y.kin;
                        y.kin = c;
                    }
                    return was;
                case 3:
                    ask(one(a) && in(b, 0, 6), BEYOND);
                    int k = w.people.get(a).kind;
                    ask(b == 0 || b == k || (k == 2 && b == 1), KIND);
                    return w.people.get(a).ruled;
                case 4:
                    ask(one(a) && one(b) && a != b && in(c, -9, 9), BEYOND);
                    was = w.likes[a][b];
                    w.likes[a][b] = c;
                    return was;
                case 5:
                    ask(in(a, 0, 3) && in(b, 0, 3) && in(c, -99, 99), BEYOND);
                    was = w.worth[a][b];
                    w.worth[a][b] = c;
                    return was;
                case 6:
                    ask(in(a, 0, 5), BEYOND);
                    ask(in(b, a < 2 ? 1 : 0, new int[] {4, 40, 1, 1, 2, 20}[a]), BEYOND);
                    was = w.rules[a];
                    w.rules[a] = b;
                    w.ahead(w.rules[0]);
                    return was;
                default:
                    return chair(f, a, b);
            }
        }

        long chair(int f, int a, int b) {
            int was;
            switch (f) {
                case 7:
                    ask(a == -1 || one(a), BEYOND);
                    ask(a == -1 || (alive(a) && !w.line.contains(a)), STATE);
                    was = no(w.sits);
                    w.sits = a == -1 ? null : a;
                    w.reign = 0;
                    return was;
                case 8:
                    ask(in(a, 0, w.rules[0] - 1) && (b == -1 || one(b)), BEYOND);
                    ask(b == -1 || (alive(b) && !w.line.contains(b) && (!w.sits(b) || w.rules[2] == 1)), STATE);
                    return no(w.line.set(a, b == -1 ? null : b));
                case 9:
                    ask(one(a), BEYOND);
                    ask(alive(a), STATE);
                    int set = 0;
                    for (int q = 0; q < w.people.size(); q++) {
                        set += w.may(a, q) ? 1 << q : 0;
                    }
                    return set;
                case 10:
                    ask(one(a) && one(b), BEYOND);
                    ask(alive(a) && w.may(a, b), STATE);
                    return w.follows(a, b);
                case 11:
                    w.come();
                    return no(w.sits);
                case 12:
                    ask(in(a, 1, 50), BEYOND);
                    int came = 0;
                    for (int i = 0; i < a; i++) {
                        came += w.year() ? 1 : 0;
                    }
                    return came;
                case 13:
                    was = w.z;
                    w.z = a;
                    return was;
                default:
                    ask(in(a, 0, w.rules[0] + 1), BEYOND);
                    return a == 0 ? no(w.sits) : a == 1 ? w.reign : no(w.line.get(a - 2));
            }
        }

        long ahead(int f, int a, int b, int c) {
            switch (f) {
                case 16:
                    ask(in(a, 1, 200), BEYOND);
                    return no(chairs(w.twin(), a).get(a - 1));
                case 17:
                    return round()[2];
                case 18:
                    ask(in(a, 0, 1), BEYOND);
                    return round()[a];
                case 19:
                    ask(in(a, 0, 3) && in(b, 1, 200), BEYOND);
                    int n = 0;
                    for (Integer p : chairs(w.twin(), b)) {
                        n += p != null && w.people.get(p).sort == a ? 1 : 0;
                    }
                    return n;
                case 20:
                    ask(in(a, 0, 3) && in(b, 1, 200), BEYOND);
                    return worthOf(chairs(w.twin(), b), a);
                case 21:
                    ask(in(a, 1, 4) && in(b, 0, 3) && in(c, 1, 200), BEYOND);
                    World t = w.twin();
                    t.ahead(a);
                    return worthOf(chairs(t, c), b);
                case 22:
                    return vote();
                case 23:
                    ask(one(a) && one(b) && a != b && in(c, 1, 200), BEYOND);
                    ask(alive(a) && alive(b), STATE);
                    return keptOf(a, b, c);
                case 24:
                    return pact(a);
                default:
                    return odds(a, b);
            }
        }

        int vote() {
            int best = -1;
            int most = Integer.MIN_VALUE;
            for (int p = 0; p < w.people.size(); p++) {
                int sum = 0;
                for (int q = 0; q < w.people.size(); q++) {
                    sum += alive(q) && p != q ? w.likes[q][p] : 0;
                }
                if (alive(p) && sum > most) {
                    best = p;
                    most = sum;
                }
            }
            ask(best >= 0, NONE);
            return best;
        }

        int pact(int n) {
            ask(in(n, 1, 40), BEYOND);
            int best = -1;
            int most = Integer.MIN_VALUE;
            for (int two = 0; two < 100; two++) {
                int p = two / 10;
                int q = two % 10;
                if (p < q && one(p) && one(q) && alive(p) && alive(q)) {
                    int sum = keptOf(p, q, n) + keptOf(q, p, n);
                    if (sum > most) {
                        best = two;
                        most = sum;
                    }
                }
            }
            ask(best >= 0, NONE);
            return best;
        }

        int odds(int p, int n) {
            ask(one(p) && in(n, 1, 40), BEYOND);
            int often = 0;
            int z = w.z;
            for (int i = 0; i < n; i++) {
                World t = w.twin();
                t.z = z;
                for (int y = 0; y < 200; y++) {
                    if (t.year()) {
                        often += t.sits(p) ? 1 : 0;
                        break;
                    }
                }
                z = t.z;
            }
            return often;
        }

        long rest(int f, int a, int b, int c, int d, int e) {
            switch (f) {
                case 26:
                    ask(in(b, 1, 4), BEYOND);
                    ask(tape.length() + b <= 80, FULL);
                    for (int i = 4 - b; i < 4; i++) {
                        tape += (char) (new int[] {a >>> 24, a >>> 16, a >>> 8, a}[i] & 255);
                    }
                    return tape.length();
                case 27:
                    int had = tape.length();
                    tape = "";
                    return had;
                case 28:
                    String was = tape;
                    tape = "";
                    int fault = Grammar.fault(was);
                    if (fault >= 0) {
                        return -1 - fault;
                    }
                    w.text = was;
                    return 1;
                case 29:
                    ask(one(a) && one(b), BEYOND);
                    ask(w.text != null, NONE);
                    return w.gives(a, b);
                case 30:
                    int there = w.text == null ? 0 : 1;
                    w.text = null;
                    return there;
                default:
                    return f < 36 ? sheet(f, a, b, c, d, e) : image(f, a);
            }
        }

        long sheet(int f, int a, int b, int c, int d, int e) {
            ask(in(a, 0, 3), BEYOND);
            if (f == 31) {
                ask(b == 0 || b == 8 || b == 16 || b == 64, BEYOND);
                ask(c >= 0, SIZE);
                ask(c <= 40, BEYOND);
                bits[a] = b;
                sheets[a] = b == 0 ? null : new long[c];
                return b == 0 ? 0 : c;
            }
            if (f == 33) {
                ask(in(c, 0, 3), BEYOND);
                ask(sheets[a] != null && sheets[c] != null, MISSING);
                ask(bits[a] == bits[c], KIND);
                ask(b >= 0 && d >= 0 && e >= 0, BEYOND);
                ask((long) b + e <= sheets[a].length && (long) d + e <= sheets[c].length, BEYOND);
                long[] as = sheets[a].clone();
                for (int i = 0; i < e; i++) {
                    sheets[c][d + i] = as[b + i];
                }
                return e;
            }
            ask(sheets[a] != null, MISSING);
            if (f == 32) {
                ask(in(b, 0, sheets[a].length - 1), BEYOND);
                long was = sheets[a][b];
                sheets[a][b] = cut(a, wide(c, d));
                return was;
            }
            if (f == 34) {
                ask(one(b), BEYOND);
                int came = 0;
                for (int i = 0; i < sheets[a].length; i++) {
                    if (i != b && one(i) && sheets[a][i] >= -9 && sheets[a][i] <= 9) {
                        w.likes[b][i] = (int) sheets[a][i];
                        came++;
                    }
                }
                return came;
            }
            List<Integer> who = chairs(w.twin(), sheets[a].length);
            for (int i = 0; i < sheets[a].length; i++) {
                if (sheets[a][i] != no(who.get(i))) {
                    return 1 + i;
                }
            }
            return 0;
        }

        long image(int f, int a) {
            switch (f) {
                case 36:
                    kept = w.twin();
                    return 1;
                case 37:
                    ask(kept != null, NONE);
                    w = kept.twin();
                    return w.people.size();
                case 38:
                    int was = kept == null ? 0 : 1;
                    kept = null;
                    return was;
                case 39:
                    ask(in(a, 0, 5), BEYOND);
                    int alive = 0;
                    int ruled = 0;
                    for (One o : w.people) {
                        alive += o.dead ? 0 : 1;
                        ruled += o.ruled;
                    }
                    return new int[] {w.people.size(), alive, nonNull(w.line).size(), ruled, tape.length(), w.z}[a];
                default:
                    ask(in(a, -1, 6), BEYOND);
                    int all = 0;
                    for (int n : found) {
                        all += n;
                    }
                    return a < 0 ? all : found[a];
            }
        }
    }

    static long wide(int c, int d) {
        return ((long) d << 32) ^ c;
    }

    static long real(NextButOne x, int f, int a, int b, int c, int d, int e) {
        switch (f) {
            case 0: return x.person(a, b, c);
            case 1: return x.of(a, b);
            case 2: return x.set(a, b, c);
            case 3: return x.as(a, b);
            case 4: return x.likes(a, b, c);
            case 5: return x.worth(a, b, c);
            case 6: return x.rule(a, b);
            case 7: return x.sit(a);
            case 8: return x.line(a, b);
            case 9: return x.may(a);
            case 10: return x.follows(a, b);
            case 11: return x.come();
            case 12: return x.years(a);
            case 13: return x.seed(a);
            case 14: case 15: return x.now(a);
            case 16: return x.ahead(a);
            case 17: return x.ever();
            case 18: return x.turns(a);
            case 19: return x.share(a, b);
            case 20: return x.has(a, b);
            case 21: return x.but(a, b, c);
            case 22: return x.vote();
            case 23: return x.kept(a, b, c);
            case 24: return x.pact(a);
            case 25: return x.odds(a, b);
            case 26: return x.feed(a, b);
            case 27: return x.wipe();
            case 28: return x.text();
            case 29: return x.gives(a, b);
            case 30: return x.untell();
            case 31: return x.sheet(a, b, c);
            case 32: return x.write(a, b, wide(c, d));
            case 33: return x.copy(a, b, c, d, e);
            case 34: return x.lays(a, b);
            case 35: return x.read(a);
            case 36: return x.image();
            case 37: return x.undo();
            case 38: return x.tear();
            case 39: return x.count(a);
            default: return x.status(a);
        }
    }

    /** Chooses calls: mostly right ones, edges, and now and then any number. */
    static final class Chooser {
        /** Behind these the document leaves all answers free. */
        static final int CALLS = 512;
        final Random r;
        final NextButOne x = new NextButOne();
        final Model m = new Model();
        final StringBuilder told = new StringBuilder();
        int wrong = 0;
        int calls = 0;

        Chooser(long seed) {
            r = new Random(seed);
        }

        int pick(int least, int most) {
            int k = r.nextInt(60);
            if (k == 0) {
                return least - 1;
            }
            if (k == 1) {
                return most + 1;
            }
            if (k == 2) {
                return new int[] {Integer.MIN_VALUE, Integer.MAX_VALUE, -1, 1 << 16, r.nextInt()}[r.nextInt(5)];
            }
            return least + r.nextInt(most - least + 1);
        }

        int anyone() {
            return pick(0, Math.max(0, m.w.people.size() - 1));
        }

        long call(int f, int... args) {
            if (calls == CALLS) {
                return 0;
            }
            calls++;
            int[] g = new int[5];
            System.arraycopy(args, 0, g, 0, args.length);
            long want = m.call(f, g[0], g[1], g[2], g[3], g[4]);
            long got = real(x, f, g[0], g[1], g[2], g[3], g[4]);
            told.append(f).append(java.util.Arrays.toString(args)).append(" = ").append(want).append('\n');
            if (got != want && wrong == 0) {
                wrong = 1;
                System.out.println("call " + f + " " + java.util.Arrays.toString(args) + " answered " + got + ", the model " + want);
            }
            return want;
        }

        String phrase(int depth) {
            int k = depth <= 0 ? r.nextInt(2) : r.nextInt(10);
            if (k == 0) {
                return String.valueOf(r.nextInt(new int[] {3, 12, 100, 10000}[r.nextInt(4)]));
            }
            if (k <= 3) {
                return String.valueOf("laswrn".charAt(r.nextInt(6)));
            }
            if (k == 4) {
                return (r.nextBoolean() ? "!" : "-") + phrase(0);
            }
            if (k == 5) {
                return "(" + phrase(depth - 1) + ")";
            }
            return phrase(depth - 1) + "|&<=>+-*/%".charAt(r.nextInt(10)) + phrase(depth - 1);
        }

        void feedText() {
            String t = phrase(r.nextInt(4));
            if (r.nextInt(3) == 0) {
                int at = r.nextInt(t.length() + 1);
                String odd = "|&<=>+-*/%!()laswrn0123456789 x~".charAt(r.nextInt(32)) + "";
                t = t.substring(0, at) + odd + t.substring(Math.min(t.length(), at + r.nextInt(2)));
            }
            if (r.nextInt(12) == 0) {
                t = "!-(".repeat(2).substring(0, r.nextInt(7)) + t;
            }
            if (r.nextInt(9) == 0) {
                t = t.substring(0, r.nextInt(t.length() + 1));
            }
            if (r.nextInt(10) != 0) {
                call(27);
            }
            for (int i = 0; i < t.length(); ) {
                int n = Math.min(1 + r.nextInt(4), t.length() - i);
                int v = n < 4 ? r.nextInt() << (8 * n) : 0;
                for (int j = 0; j < n; j++) {
                    v |= t.charAt(i + j) << (8 * (n - 1 - j));
                }
                call(26, v, n);
                i += n;
            }
            call(28);
        }

        void start() {
            int n = r.nextInt(11);
            int kind = r.nextInt(14);
            for (int i = 0; i < n; i++) {
                call(0, kind < 7 && r.nextInt(3) > 0 ? kind : r.nextInt(7), 20 + r.nextInt(r.nextBoolean() ? 30 : 80), r.nextInt(4));
            }
            int likings = r.nextInt(60);
            for (int i = 0; i < likings; i++) {
                call(4, anyone(), anyone(), pick(-9, 9));
            }
            int worths = r.nextInt(20);
            for (int i = 0; i < worths; i++) {
                call(5, pick(0, 3), pick(0, 3), pick(-99, 99));
            }
            if (r.nextInt(3) > 0) {
                call(6, 0, 1 + r.nextInt(4));
                call(6, 2, r.nextInt(2));
                call(6, 4, r.nextInt(3));
            }
            for (int i = 0; i < 4 && r.nextInt(4) > 0; i++) {
                call(8, i, anyone());
            }
            if (r.nextInt(3) > 0) {
                feedText();
            }
        }

        void step() {
            switch (r.nextInt(34)) {
                case 0: call(0, pick(0, 6), pick(20, 99), pick(0, 3)); break;
                case 1: call(1, anyone(), pick(0, 7)); break;
                case 2: call(1, anyone(), 7); break;
                case 3:
                    int what = pick(0, 3);
                    call(2, anyone(), what, what == 0 ? pick(0, 6) : what == 1 ? pick(20, 99) : what == 2 ? pick(0, 3)
                        : r.nextInt(3) == 0 ? 0 : pick(0, 1023) & r.nextInt(1024));
                    break;
                case 4: call(3, anyone(), pick(0, 6)); break;
                case 5: call(4, anyone(), anyone(), pick(-9, 9)); break;
                case 6: call(5, pick(0, 3), pick(0, 3), pick(-99, 99)); break;
                case 7:
                    int rule = pick(0, 5);
                    call(6, rule, rule < 0 || rule > 5 ? 1 : pick(rule < 2 ? 1 : 0, new int[] {4, 40, 1, 1, 2, 3}[rule]));
                    break;
                case 8: call(7, r.nextInt(5) == 0 ? -1 : anyone()); break;
                case 9: case 10: call(8, pick(0, m.w.rules[0] - 1), r.nextInt(4) == 0 ? -1 : anyone()); break;
                case 11: call(9, anyone()); break;
                case 12: call(10, anyone(), anyone()); break;
                case 13: case 14: call(11); break;
                case 15: call(12, r.nextInt(12) == 0 ? pick(1, 50) : pick(1, 3)); break;
                case 16: call(13, r.nextInt()); break;
                case 17: case 18: call(14, pick(0, m.w.rules[0] + 1)); break;
                case 19: call(16, pick(1, r.nextInt(10) == 0 ? 200 : 9)); break;
                case 20: call(17); break;
                case 21: call(18, pick(0, 1)); break;
                case 22: call(19, pick(0, 3), pick(1, 200)); break;
                case 23: call(20, pick(0, 3), pick(1, 200)); break;
                case 24: call(21, pick(1, 4), pick(0, 3), pick(1, 200)); break;
                case 25: call(22); break;
                case 26: call(23, anyone(), anyone(), pick(1, 200)); break;
                case 27:
                    if (r.nextInt(8) == 0) {
                        call(24, pick(1, 40));
                    }
                    break;
                case 28:
                    if (r.nextInt(3) == 0) {
                        call(25, anyone(), pick(1, 40));
                    }
                    break;
                case 29:
                    if (r.nextInt(3) == 0) {
                        feedText();
                    } else if (r.nextInt(6) == 0) {
                        call(30);
                    } else {
                        call(29, anyone(), anyone());
                    }
                    break;
                case 30: case 31: sheets(); break;
                case 32:
                    int k = r.nextInt(9);
                    if (k < 3) {
                        call(36);
                    } else if (k < 7) {
                        call(37);
                    } else if (k == 7) {
                        call(38);
                    }
                    break;
                default:
                    if (r.nextBoolean()) {
                        call(39, pick(0, 5));
                    } else {
                        call(40, pick(-1, 6));
                    }
            }
        }

        void sheets() {
            switch (r.nextInt(7)) {
                case 0:
                    call(31, pick(0, 3), new int[] {0, 8, 8, 16, 16, 64, 64, 32, -8}[r.nextInt(9)], pick(0, 40));
                    break;
                case 1: case 2:
                    int small = r.nextInt(24) - 12;
                    boolean wide = r.nextInt(3) == 0;
                    call(32, pick(0, 3), pick(0, 12), wide ? r.nextInt() : small, wide ? r.nextInt() : small >> 31);
                    break;
                case 3: call(33, pick(0, 3), pick(0, 12), pick(0, 3), pick(0, 12), pick(0, 20)); break;
                case 4: call(34, pick(0, 3), anyone()); break;
                case 5: call(35, pick(0, 3)); break;
                default: rightSheet(pick(0, 3));
            }
        }

        /** A sheet that tells what comes, so that THE READER has one to find right. */
        void rightSheet(int s) {
            int n = 1 + r.nextInt(6);
            call(31, s, new int[] {8, 16, 64}[r.nextInt(3)], n);
            for (int i = 0; i < n; i++) {
                int who = (int) call(16, i + 1);
                if (r.nextInt(12) > 0) {
                    call(32, s, i, who, who >> 31);
                }
            }
            call(35, s);
        }
    }

    /** Short tapes of any signs: the FAULT must be found where the grammar itself ends. */
    static boolean textsAlike() {
        Random r = new Random(5);
        boolean alike = true;
        for (int i = 0; i < 20000; i++) {
            StringBuilder t = new StringBuilder();
            int n = r.nextInt(12);
            for (int j = 0; j < n; j++) {
                t.append("l1(!-)<+*|a0=&/".charAt(r.nextInt(r.nextBoolean() ? 5 : 15)));
            }
            NextButOne x = new NextButOne();
            for (int j = 0; j < n; j++) {
                x.feed(t.charAt(j), 1);
            }
            int fault = Grammar.fault(t.toString());
            int got = x.text();
            if (got != (fault < 0 ? 1 : -1 - fault)) {
                System.out.println("text " + t + " answered " + got + ", FAULT is " + fault);
                alike = false;
            }
        }
        return alike;
    }

    public static void main(String[] args) {
        int runs = args.length > 0 ? Integer.parseInt(args[0]) : 300;
        boolean right = textsAlike();
        for (int seed = 0; seed < runs && right; seed++) {
            Chooser c = new Chooser(seed);
            c.start();
            for (int i = 0; i < Chooser.CALLS && c.calls < Chooser.CALLS && c.wrong == 0; i++) {
                c.step();
            }
            if (c.wrong != 0) {
                System.out.println("run " + seed + ":\n" + c.told);
                right = false;
            }
        }
        System.out.println(right ? "all answers are alike" : "answers differ");
        if (!right) {
            System.exit(1);
        }
    }
}
