import java.util.ArrayList;
import java.util.Arrays;
import java.util.List;

/**
 * The document told once more in the plainest way, with everything made anew in each call and
 * with another shape than the program (real subclasses, exceptions, texts worked out from their
 * signs), so that a slip in one of the two shows as a difference. Where the document can be read
 * in two ways, this takes the way that NOTES.md names.
 */
final class Plain {
    static final int LOW = -1000000000;

    static final class Err extends RuntimeException {
        final int k;
        Err(int k) { super(null, null, false, false); this.k = k; }
    }

    // ---- people as real subclasses
    static List<Integer> began = new ArrayList<>();

    static class Seer {
        int k, m, beat, phase;
        int kind() { return 0; }
        boolean isShutByKind(long t) { return rest(t) == 0; }
        int rest(long t) { return (int) Math.floorMod(t + phase, (long) beat); }
        int tries(Plain p) { return 1; }
        int blinks(int x) { began.add(10); return x + k; }
        int moves(int x) { began.add(11); return blinks(x) * 2; }
        int looks(int x) { began.add(12); return moves(x) - m; }
        int parts(int x) { began.add(13); if (m == k) throw new Err(6); return x / (m - k); }
    }
    static class Banker extends Seer {
        int kind() { return 1; }
        int tries(Plain p) { return super.tries(p) + 1 + m / 5; }
        int blinks(int x) { began.add(20); return super.blinks(x) - 4; }
        int parts(int x) { began.add(21); return super.parts(x) + moves(1); }
    }
    static class Deaf extends Seer {
        int kind() { return 2; }
        boolean isShutByKind(long t) { return super.isShutByKind(t) && t % 3 != m % 3; }
        int moves(int x) { began.add(30); return 0 - super.moves(x); }
    }
    static class Governor extends Seer {
        int kind() { return 3; }
        boolean isShutByKind(long t) { return rest(t) < 2; }
        int tries(Plain p) { return super.tries(p) + p.doings.size(); }
        int looks(int x) { began.add(40); return super.looks(x / 2); }
    }
    static class Lover extends Banker {
        int kind() { return 4; }
        boolean isShutByKind(long t) { return super.isShutByKind(t) || t % 12 == m; }
        int tries(Plain p) { return 2 * super.tries(p); }
        int blinks(int x) { began.add(50); return super.blinks(x) * 3; }
        int looks(int x) { began.add(51); return super.looks(x) ^ k; }
    }
    static class Grey extends Deaf {
        int kind() { return 5; }
        boolean isShutByKind(long t) { return super.isShutByKind(t) && m > 6; }
        int tries(Plain p) { return super.tries(p) + 3; }
        int moves(int x) { began.add(60); return super.moves(x + 1); }
    }
    static class Child extends Seer {
        int kind() { return 6; }
        boolean isShutByKind(long t) { return super.isShutByKind(t) || t % 7 == m % 7; }
        int tries(Plain p) { return 0; }
        int blinks(int x) { began.add(70); return 9; }
        int moves(int x) { began.add(71); return super.moves(x) + m; }
    }

    static Seer make(int km, int k, int beat, int phase) {
        Seer s;
        switch (km / 10) {
            case 0: s = new Seer(); break;
            case 1: s = new Banker(); break;
            case 2: s = new Deaf(); break;
            case 3: s = new Governor(); break;
            case 4: s = new Lover(); break;
            case 5: s = new Grey(); break;
            default: s = new Child(); break;
        }
        s.k = k; s.m = km % 10; s.beat = beat; s.phase = phase;
        return s;
    }
    static final Class<?>[] CLASSES = {Seer.class, Banker.class, Deaf.class, Governor.class,
        Lover.class, Grey.class, Child.class};

    // ---- the state
    List<Seer> people = new ArrayList<>();
    List<int[]> doings = new ArrayList<>();   // who, parts, watchers
    String[] texts = new String[2];
    String tape = "";
    List<Integer> waiting = new ArrayList<>();
    int tick = 0, z = 1;
    int[][] sheets = new int[4][];
    int[] bits = new int[4];
    List<Integer> trace = new ArrayList<>();
    int[] told = new int[7];
    Plain image;
    int images;

    void copyIn(Plain p) {
        people = new ArrayList<>();
        for (Seer s : p.people) people.add(make(10 * s.kind() + s.m, s.k, s.beat, s.phase));
        doings = new ArrayList<>();
        for (int[] d : p.doings) doings.add(d.clone());
        texts = p.texts.clone();
        tape = p.tape;
        waiting = new ArrayList<>(p.waiting);
        tick = p.tick;
        z = p.z;
    }

    int call(Act a) {
        try { return a.run(); }
        catch (Err e) { told[e.k]++; return LOW - e.k; }
    }
    interface Act { int run(); }
    static void need(boolean b, int k) { if (!b) throw new Err(k); }
    static boolean in(long v, long a, long b) { return a <= v && v <= b; }
    void person(int i) { need(in(i, 0, people.size() - 1), 1); }
    void doing(int i) { need(in(i, 0, doings.size() - 1), 1); }
    void set(int s) { need(in(s, 0, Math.round(Math.pow(2, people.size())) - 1), 1); }
    void sheet(int s) { need(in(s, 0, 3), 1); }
    void there(int s) { need(sheets[s] != null, 2); }

    // ---- texts: worked out from the signs by splitting at the last sign of the weakest level
    /** Which signs may come behind a prefix: a little machine with a stack, not a descent. */
    static int fault(String text, int use) {
        String names = use == 0 ? "rst" : "pol";
        StringBuilder open = new StringBuilder();      // '!' and '(' that are open
        StringBuilder compared = new StringBuilder("n"); // per open '(': was there a comparison
        boolean wantsQ = true;
        int digits = 0;
        for (int i = 0; i < text.length(); i++) {
            char c = text.charAt(i);
            if (digits > 0 && digits < 4 && Character.isDigit(c) && c < 128) { digits++; continue; }
            digits = 0;
            if (wantsQ) {
                if (c == '!' || c == '(') {
                    if (open.length() == 5) return i;
                    open.append(c);
                    if (c == '(') compared.append('n');
                    continue;
                }
                boolean digit = c >= '0' && c <= '9';
                if (!digit && names.indexOf(c) < 0) return i;
                if (digit) digits = 1;
                wantsQ = false;
                dropNots(open);
                continue;
            }
            int last = compared.length() - 1;
            if (c == ')') {
                if (last == 0) return i;
                compared.setLength(last);
                open.setLength(open.length() - 1);
                dropNots(open);
            } else if ("<=>".indexOf(c) >= 0) {
                if (compared.charAt(last) == 'y') return i;
                compared.setCharAt(last, 'y');
                wantsQ = true;
            } else if ("|&".indexOf(c) >= 0) {
                compared.setCharAt(last, 'n');
                wantsQ = true;
            } else if ("+-*/%".indexOf(c) >= 0) {
                wantsQ = true;
            } else {
                return i;
            }
        }
        return wantsQ || compared.length() > 1 ? text.length() : -1;
    }
    static void dropNots(StringBuilder open) {
        while (open.length() > 0 && open.charAt(open.length() - 1) == '!') open.setLength(open.length() - 1);
    }

    static int work(String s, int use, int a, int b, int c) {
        for (String level : new String[] {"|", "&", "<=>", "+-", "*/%"}) {
            int depth = 0;
            for (int i = s.length() - 1; i > 0; i--) {
                char x = s.charAt(i);
                if (x == ')') depth++;
                if (x == '(') depth--;
                if (depth == 0 && level.indexOf(x) >= 0) {
                    int l = work(s.substring(0, i), use, a, b, c);
                    int r = work(s.substring(i + 1), use, a, b, c);
                    switch (x) {
                        case '|': return (l | r) != 0 ? 1 : 0;
                        case '&': return l == 0 ? 0 : r == 0 ? 0 : 1;
                        case '<': return l < r ? 1 : 0;
                        case '=': return l == r ? 1 : 0;
                        case '>': return l > r ? 1 : 0;
                        case '+': return (int) ((long) l + r);
                        case '-': return (int) ((long) l - r);
                        case '*': return (int) ((long) l * r);
                        case '/': return r == 0 ? 0 : (int) ((long) l / r);
                        default: return r == 0 ? 0 : (int) ((long) l % r);
                    }
                }
            }
        }
        if (s.charAt(0) == '!') return work(s.substring(1), use, a, b, c) == 0 ? 1 : 0;
        if (s.charAt(0) == '(') return work(s.substring(1, s.length() - 1), use, a, b, c);
        int name = (use == 0 ? "rst" : "pol").indexOf(s.charAt(0));
        if (name >= 0) return new int[] {a, b, c}[name];
        return Integer.parseInt(s);
    }

    int law0(int use, int a, int b, int c) {
        int v = texts[use] != null ? work(texts[use], use, a, b, c) : use == 0 ? b : a;
        int top = use == 0 ? 1 : 9;
        return v < 0 ? 0 : v > top ? top : v;
    }
    boolean isShut(Seer s, long t) {
        return law0(0, s.rest(t), s.isShutByKind(t) ? 1 : 0, (int) (t % 24)) == 1;
    }
    int shutSet(long t) {
        int set = 0;
        for (Seer s : people) if (isShut(s, t)) set += 1 << s.k;
        return set;
    }
    int getsOn(int[] d, int left, long t) {
        int others = 0;
        for (Seer s : people) if (s.k != d[0] && isShut(s, t)) others++;
        return law0(1, people.get(d[0]).tries(this), others, left);
    }
    boolean moment0(int set, long t) { return (set & shutSet(t)) == set; }
    /** What is left behind each of 0 .. n ticks. */
    int[] course(int[] d, int watchers, int n) {
        int[] left = new int[n + 1];
        left[0] = d[1];
        for (int i = 0; i < n; i++) {
            long t = (long) tick + i;
            left[i + 1] = left[i];
            if (left[i] > 0 && moment0(watchers, t)) left[i + 1] = Math.max(0, left[i] - getsOn(d, left[i], t));
        }
        return left;
    }
    int done(int[] d, int watchers, int n) {
        int[] c = course(d, watchers, n);
        for (int i = 0; i <= n; i++) if (c[i] == 0) return i;
        return -1;
    }
    int goBy() {
        int ended = 0;
        List<int[]> after = new ArrayList<>();
        for (int[] d : doings) {
            int[] e = d.clone();
            e[1] = course(d, d[2], 1)[1];
            if (e[1] == 0 && d[1] > 0) ended++;
            after.add(e);
        }
        doings = after;
        tick++;
        return ended;
    }
    int draw() { z = z * 1103515245 + 12345; return z >>> 8; }

    // ---- the acts
    int person(int km, int beat, int phase) {
        return call(() -> {
            need(in(km, 0, 69) && in(beat, 1, 12) && in(phase, 0, beat - 1), 1);
            need(people.size() < 6, 4);
            people.add(make(km, people.size(), beat, phase));
            return people.size() - 1;
        });
    }
    int personIs(int p, int what) {
        return call(() -> {
            person(p);
            need(in(what, 0, 4), 1);
            Seer s = people.get(p);
            return new int[] {s.kind(), s.m, s.beat, s.phase, isShut(s, tick) ? 1 : 0}[what];
        });
    }
    int become(int p, int km) {
        return call(() -> {
            person(p);
            need(in(km, 0, 69), 1);
            Seer s = people.get(p);
            people.set(p, make(km, p, s.beat, s.phase));
            return s.kind();
        });
    }
    int as(int p, int kind) {
        return call(() -> {
            person(p);
            need(in(kind, 0, 6), 1);
            need(CLASSES[kind].isInstance(people.get(p)), 5);
            return people.get(p).m;
        });
    }
    int beats(int p, int beat, int phase) {
        return call(() -> {
            person(p);
            need(in(beat, 1, 12) && in(phase, 0, beat - 1), 1);
            Seer s = people.get(p);
            int was = s.beat;
            s.beat = beat;
            s.phase = phase;
            return was;
        });
    }
    int doing(int p, int parts, int watchers) {
        return call(() -> {
            person(p);
            need(in(parts, 0, 99), 1);
            set(watchers);
            need((watchers >> p) % 2 == 0, 1);
            need(doings.size() < 6, 4);
            doings.add(new int[] {p, parts, watchers});
            return doings.size() - 1;
        });
    }
    int doingIs(int d, int what) {
        return call(() -> {
            doing(d);
            need(in(what, 0, 3), 1);
            int[] x = doings.get(d);
            return what < 3 ? x[what] : getsOn(x, x[1], tick);
        });
    }
    int sets(int d, int parts) {
        return call(() -> {
            doing(d);
            need(in(parts, 0, 99), 1);
            int was = doings.get(d)[1];
            doings.get(d)[1] = parts;
            return was;
        });
    }
    int shut() { return call(() -> shutSet(tick)); }
    int feed(long word, int n) {
        return call(() -> {
            need(in(n, 1, 8), 1);
            need(tape.length() + n <= 60, 4);
            for (int i = 0; i < n; i++) tape += (char) Math.floorMod(word >> 8 * i, 256L);
            return tape.length();
        });
    }
    int text(int use) {
        return call(() -> {
            need(in(use, 0, 1), 1);
            String t = tape;
            tape = "";
            int f = fault(t, use);
            if (f >= 0) return -10 - f;
            texts[use] = t;
            return 1;
        });
    }
    int untell(int use) {
        return call(() -> {
            need(in(use, 0, 1), 1);
            int was = texts[use] == null ? 0 : 1;
            texts[use] = null;
            return was;
        });
    }
    int law(int use, int a, int b, int c) {
        return call(() -> { need(in(use, 0, 1), 1); return law0(use, a, b, c); });
    }
    int ticks(int n) {
        return call(() -> {
            need(in(n, 1, 200), 1);
            need((long) tick + n <= 99999, 3);
            int sum = 0;
            for (int i = 0; i < n; i++) sum += goBy();
            return sum;
        });
    }
    int loose(int n) {
        return call(() -> {
            need(in(n, 1, 30), 1);
            need((long) tick + n <= 99999, 3);
            int sum = 0;
            for (int i = 0; i < n; i++) {
                if (!people.isEmpty() && draw() % 4 == 0) {
                    Seer s = people.get(draw() % people.size());
                    s.phase = draw() % s.beat;
                }
                sum += goBy();
            }
            return sum;
        });
    }
    int tick(int v) {
        return call(() -> { need(in(v, 0, 99999), 1); int was = tick; tick = v; return was; });
    }
    int seed(int v) { int was = z; z = v; return was; }
    int then(int d, int n) {
        return call(() -> {
            doing(d);
            need(in(n, 0, 200), 1);
            return course(doings.get(d), doings.get(d)[2], n)[n];
        });
    }
    int soonest(int d) {
        return call(() -> {
            doing(d);
            int b = done(doings.get(d), doings.get(d)[2], 200);
            need(b >= 0, 2);
            return b;
        });
    }
    int moment(int set) {
        return call(() -> {
            set(set);
            for (int i = 0; i <= 400; i++) if (moment0(set, tick + i)) return i;
            throw new Err(2);
        });
    }
    int moments(int set, int n) {
        return call(() -> {
            set(set);
            need(in(n, 0, 99), 1);
            int sum = 0;
            for (int i = 0; i < n; i++) if (moment0(set, tick + i)) sum++;
            return sum;
        });
    }
    int away(int d, int n, int what) {
        return call(() -> {
            doing(d);
            need(in(n, 0, 99) && in(what, 0, 1), 1);
            int[] x = doings.get(d);
            for (int size = 0; size <= 5; size++) {
                for (int gone = 0; gone < 64; gone++) {
                    if ((gone | x[2]) == x[2] && Integer.bitCount(gone) == size && done(x, x[2] - gone, n) >= 0) {
                        return what == 0 ? size : gone;
                    }
                }
            }
            throw new Err(2);
        });
    }
    int phaseFor(int p, int d, int what) {
        return call(() -> {
            person(p);
            doing(d);
            need(in(what, 0, 1), 1);
            Seer s = people.get(p);
            int was = s.phase, best = 100, by = -1;
            for (int ph = s.beat - 1; ph >= 0; ph--) {
                s.phase = ph;
                int b = done(doings.get(d), doings.get(d)[2], 99);
                if (b >= 0 && b <= best) { best = b; by = ph; }
            }
            s.phase = was;
            need(by >= 0, 2);
            return what == 0 ? by : best;
        });
    }
    int odds(int set, int n, int part) {
        return call(() -> {
            set(set);
            need(in(n, 1, 99) && in(part, 0, 1), 1);
            int a = 0;
            for (int i = 0; i < n; i++) if (moment0(set, tick + i)) a++;
            int g = java.math.BigInteger.valueOf(a).gcd(java.math.BigInteger.valueOf(n)).intValue();
            return part == 0 ? a / g : n / g;
        });
    }
    int fits(int sh, int p, int what) {
        return call(() -> {
            sheet(sh);
            person(p);
            need(in(what, 0, 1), 1);
            there(sh);
            Seer s = people.get(p);
            List<Integer> found = new ArrayList<>();
            for (int beat = 1; beat <= 12; beat++) for (int ph = 0; ph < beat; ph++) {
                Seer u = make(10 * s.kind() + s.m, p, beat, ph);
                int[] is = new int[sheets[sh].length];
                for (int i = 0; i < is.length; i++) is[i] = isShut(u, tick + i) ? 1 : 0;
                if (Arrays.equals(is, sheets[sh])) found.add(100 * beat + ph);
            }
            if (what == 0) return found.size();
            need(!found.isEmpty(), 2);
            return found.get(0);
        });
    }
    int voice(int p, int v, int x) {
        return call(() -> {
            person(p);
            need(in(v, 0, 3), 1);
            began = new ArrayList<>();
            Seer s = people.get(p);
            try {
                return v == 0 ? s.blinks(x) : v == 1 ? s.moves(x) : v == 2 ? s.looks(x) : s.parts(x);
            } finally {
                trace = began.size() > 30 ? began.subList(0, 30) : began;
            }
        });
    }
    int body(int i) { return call(() -> { need(in(i, 0, trace.size() - 1), 2); return trace.get(i); }); }
    int sheet(int s, int b, int n) {
        return call(() -> {
            sheet(s);
            need(b == 0 || b == 8 || b == 16 || b == 32, 1);
            if (b == 0) { sheets[s] = null; return 1; }
            need(n >= 0, 3);
            need(n <= 24, 1);
            sheets[s] = new int[n];
            bits[s] = b;
            return 1;
        });
    }
    int put(int s, int i, int v) {
        return call(() -> {
            sheet(s);
            there(s);
            need(in(i, 0, sheets[s].length - 1), 1);
            sheets[s][i] = bits[s] == 8 ? (byte) v : bits[s] == 16 ? (char) v : v;
            return 1;
        });
    }
    int move(int s, int i, int o, int j, int n) {
        return call(() -> {
            sheet(s);
            sheet(o);
            there(s);
            there(o);
            need(bits[s] == bits[o], 5);
            need(n >= 0 && i >= 0 && j >= 0 && (long) i + n <= sheets[s].length && (long) j + n <= sheets[o].length, 1);
            int[] were = sheets[s].clone();
            for (int q = 0; q < n; q++) sheets[o][j + q] = were[i + q];
            return n;
        });
    }
    int partsAll(int s) {
        return call(() -> {
            sheet(s);
            there(s);
            int done = 0;
            for (int v : sheets[s]) {
                if (done >= doings.size() || !in(v, 0, 99)) break;
                doings.get(done++)[1] = v;
            }
            return done;
        });
    }
    int judge(int s) {
        return call(() -> {
            sheet(s);
            there(s);
            int right = 0;
            for (int v : sheets[s]) {
                if (v != shutSet(tick + right)) break;
                right++;
            }
            return right;
        });
    }
    int image() { image = new Plain(); image.copyIn(this); return ++images; }
    int restore() { return call(() -> { need(image != null, 2); copyIn(image); return tick; }); }
    int tell(int v) { return call(() -> { need(waiting.size() < 24, 4); waiting.add(v); return waiting.size(); }); }
    int check() {
        List<Integer> were = waiting;
        waiting = new ArrayList<>();
        for (int i = 0; i < were.size(); i++) {
            if (i >= doings.size() || were.get(i) != doings.get(i)[1]) return 1 + i;
        }
        return 0;
    }
    int count(int what) {
        return call(() -> {
            need(in(what, 0, 7), 1);
            int sum = 0;
            for (int[] d : doings) sum += d[1];
            return new int[] {people.size(), doings.size(), tick, sum, tape.length(), waiting.size(), trace.size(), z}[what];
        });
    }
    int told(int k) { return call(() -> { need(in(k, 1, 6), 1); return told[k]; }); }
}
