import java.util.Random;

/** Long runs of mostly sensible calls, each answer held against Plain's. */
public final class AgainstPlainTest {
    private static final String[] TEXTS = {
        "s", "r=0", "s|t<3", "r<2&!(t=5)", "1-s", "!s", "r%2", "t/3-r", "(s+r)*t>4", "s*2-1", "0", "1",
        "!!(t%4)=r", "9999*9999*99>r", "t=r|s", "((((r))))<s", "r-1", "t%5=0", "0-1", "s>0|r=t%3"};
    private static final String[] GETTING = {
        "p", "p+o", "o*2", "l/2", "l%3+1", "l>4", "o=2", "p*(o>1)", "9", "0", "(p|o)&l", "p-1", "!o*p", "l-1",
        "(o=1)*5+(o>1)*9", "p*p-o", "0-1", "(l>5)*3+(o=3)*2"};
    private static final String SIGNS = "rstpol0123456789!()+-*/%<=>&|. \u00e9";
    /** An object is used for at most 512 calls, and a text takes some seventy. */
    private static final int CALLS_MOST = 512 - 80;
    private static int wrong = 0;
    private static int calls;

    public static void main(String[] args) {
        int runs = args.length > 0 ? Integer.parseInt(args[0]) : 400;
        for (int seed = 1; seed <= runs && wrong < 5; seed++) run(seed);
        if (wrong != 0) System.exit(1);
        System.out.println("AgainstPlainTest: fine");
    }

    private static void run(int seed) {
        Random r = new Random(seed);
        BlinkMoves x = new BlinkMoves();
        Plain y = new Plain();
        calls = 0;
        StringBuilder log = new StringBuilder();
        int wild = r.nextInt(4) == 0 ? 6 : 40;
        int people = r.nextInt(7);
        for (int i = 0; i < people; i++) step(x, y, 0, r, wild, log);
        for (int i = 0; i < 3; i++) step(x, y, 5, r, wild, log);
        while (calls < CALLS_MOST) {
            if (!step(x, y, r.nextInt(42), r, wild, log)) {
                System.out.println("run " + seed + ":\n" + log);
                wrong++;
                return;
            }
        }
    }

    private static boolean due(StringBuilder log, String call, int got, int want) {
        calls++;
        log.append(call).append(" -> ").append(got).append(got != want ? ", due " + want : "").append('\n');
        return got == want;
    }

    private static final int[] ODD = {-1, 0, 1, 6, 7, 8, 9, 12, 13, 24, 25, 30, 31, 60, 63, 64, 70, 99, 100, 200, 201,
        400, 99999, 100000, Integer.MIN_VALUE, Integer.MAX_VALUE, -1000000001};

    private static int v(Random r, int wild, int least, int most) {
        if (r.nextInt(wild) == 0) return r.nextBoolean() ? ODD[r.nextInt(ODD.length)] : r.nextInt();
        return least + (most < least ? 0 : r.nextInt(most - least + 1));
    }

    private static boolean step(BlinkMoves x, Plain y, int act, Random r, int wild, StringBuilder log) {
        int w = wild;
        int pn = Math.max(0, y.people.size() - 1), dn = Math.max(0, y.doings.size() - 1);
        int sets = (1 << y.people.size()) - 1;
        int p = v(r, w, 0, pn), d = v(r, w, 0, dn), sh = v(r, w, 0, 3), set = v(r, w, 0, sets);
        int a, b, c, n;
        switch (act) {
            case 0: a = v(r, w, 0, 69); b = v(r, w, 1, 12); c = v(r, w, 0, Math.max(0, Math.min(11, b - 1)));
                return due(log, "person(" + a + ", " + b + ", " + c + ")", x.person(a, b, c), y.person(a, b, c));
            case 1: a = v(r, w, 0, 4);
                return due(log, "personIs(" + p + ", " + a + ")", x.personIs(p, a), y.personIs(p, a));
            case 2: a = v(r, w, 0, 69);
                return due(log, "become(" + p + ", " + a + ")", x.become(p, a), y.become(p, a));
            case 3: a = v(r, w, 0, 6);
                return due(log, "as(" + p + ", " + a + ")", x.as(p, a), y.as(p, a));
            case 4: b = v(r, w, 1, 12); c = v(r, w, 0, Math.max(0, Math.min(11, b - 1)));
                return due(log, "beats(" + p + ", " + b + ", " + c + ")", x.beats(p, b, c), y.beats(p, b, c));
            case 5: a = v(r, w, 0, 99); b = r.nextInt(8) == 0 ? set : set & ~(1 << (p & 31));
                return due(log, "doing(" + p + ", " + a + ", " + b + ")", x.doing(p, a, b), y.doing(p, a, b));
            case 6: a = v(r, w, 0, 3);
                return due(log, "doingIs(" + d + ", " + a + ")", x.doingIs(d, a), y.doingIs(d, a));
            case 7: a = r.nextInt(3) == 0 ? v(r, w, 0, 99) : v(r, w, 0, 12);
                return due(log, "sets(" + d + ", " + a + ")", x.sets(d, a), y.sets(d, a));
            case 8: return due(log, "shut()", x.shut(), y.shut());
            case 9: long word = r.nextLong(); n = v(r, w, 1, 8);
                return due(log, "feed(" + word + ", " + n + ")", x.feed(word, n), y.feed(word, n));
            case 10: case 11: return tellText(x, y, r, w, log);
            case 12: a = v(r, w, 0, 1);
                return due(log, "untell(" + a + ")", x.untell(a), y.untell(a));
            case 13: n = v(r, w, 0, 1); a = v(r, w, -3, 12); b = v(r, w, -3, 12); c = v(r, w, -3, 30);
                return due(log, "law(" + n + ", " + a + ", " + b + ", " + c + ")", x.law(n, a, b, c), y.law(n, a, b, c));
            case 14: n = v(r, w, 1, r.nextInt(9) == 0 ? 200 : 12);
                return due(log, "ticks(" + n + ")", x.ticks(n), y.ticks(n));
            case 15: n = v(r, w, 1, 30);
                return due(log, "loose(" + n + ")", x.loose(n), y.loose(n));
            case 16: a = r.nextInt(4) == 0 ? v(r, w, 99700, 99999) : v(r, w, 0, 300);
                return due(log, "tick(" + a + ")", x.tick(a), y.tick(a));
            case 17: a = r.nextInt();
                return due(log, "seed(" + a + ")", x.seed(a), y.seed(a));
            case 18: n = v(r, w, 0, 200);
                return due(log, "then(" + d + ", " + n + ")", x.then(d, n), y.then(d, n));
            case 19: return due(log, "soonest(" + d + ")", x.soonest(d), y.soonest(d));
            case 20: return due(log, "moment(" + set + ")", x.moment(set), y.moment(set));
            case 21: n = v(r, w, 0, 99);
                return due(log, "moments(" + set + ", " + n + ")", x.moments(set, n), y.moments(set, n));
            case 22: case 23: n = v(r, w, 0, 99); a = v(r, w, 0, 1);
                return due(log, "away(" + d + ", " + n + ", " + a + ")", x.away(d, n, a), y.away(d, n, a));
            case 24: case 25: a = v(r, w, 0, 1);
                return due(log, "phaseFor(" + p + ", " + d + ", " + a + ")", x.phaseFor(p, d, a), y.phaseFor(p, d, a));
            case 26: n = v(r, w, 1, 99); a = v(r, w, 0, 1);
                return due(log, "odds(" + set + ", " + n + ", " + a + ")", x.odds(set, n, a), y.odds(set, n, a));
            case 27: a = v(r, w, 0, 1);
                return due(log, "fits(" + sh + ", " + p + ", " + a + ")", x.fits(sh, p, a), y.fits(sh, p, a));
            case 28: case 29: a = v(r, w, 0, 3); b = r.nextBoolean() ? r.nextInt() : v(r, w, -20, 20);
                return due(log, "voice(" + p + ", " + a + ", " + b + ")", x.voice(p, a, b), y.voice(p, a, b));
            case 30: a = v(r, w, 0, 5);
                return due(log, "body(" + a + ")", x.body(a), y.body(a));
            case 31: a = new int[] {0, 8, 16, 32, 8, 16, 32, 7}[r.nextInt(8)]; n = v(r, w, -1, r.nextInt(5) == 0 ? 24 : 8);
                return due(log, "sheet(" + sh + ", " + a + ", " + n + ")", x.sheet(sh, a, n), y.sheet(sh, a, n));
            case 32: a = v(r, w, 0, 8); b = r.nextInt(3) == 0 ? v(r, w, 0, 110) : r.nextInt(9) == 0 ? 65536 : y.shutSet(y.tick + (a & 15));
                return due(log, "put(" + sh + ", " + a + ", " + b + ")", x.put(sh, a, b), y.put(sh, a, b));
            case 33: a = v(r, w, 0, 8); b = v(r, w, 0, 8); c = v(r, w, 0, 3); n = v(r, w, 0, 8);
                return due(log, "move(" + sh + ", " + a + ", " + c + ", " + b + ", " + n + ")",
                    x.move(sh, a, c, b, n), y.move(sh, a, c, b, n));
            case 34: return due(log, "partsAll(" + sh + ")", x.partsAll(sh), y.partsAll(sh));
            case 35: return due(log, "judge(" + sh + ")", x.judge(sh), y.judge(sh));
            case 36: return due(log, "image()", x.image(), y.image());
            case 37: return due(log, "restore()", x.restore(), y.restore());
            case 38: a = r.nextInt(5) > 0 && y.waiting.size() < y.doings.size()
                    ? y.doings.get(y.waiting.size())[1] : v(r, w, 0, 99);
                return due(log, "tell(" + a + ")", x.tell(a), y.tell(a));
            case 39: if (r.nextInt(3) > 0) return true;
                return due(log, "check()", x.check(), y.check());
            case 40: a = v(r, w, 0, 7);
                return due(log, "count(" + a + ")", x.count(a), y.count(a));
            default: a = v(r, w, 1, 6);
                return due(log, "told(" + a + ")", x.told(a), y.told(a));
        }
    }

    /** Empties the tape now and then (a text that is none does that), then feeds a whole text. */
    private static boolean tellText(BlinkMoves x, Plain y, Random r, int w, StringBuilder log) {
        if (r.nextInt(3) > 0 && !due(log, "text(1)", x.text(1), y.text(1))) return false;
        int use = v(r, w, 0, 1);
        String[] known = use == 0 ? TEXTS : GETTING;
        StringBuilder s = new StringBuilder(known[r.nextInt(known.length)]);
        int changes = r.nextInt(3) == 0 ? r.nextInt(12) : 0;
        for (int i = 0; i < changes; i++) {
            s.insert(r.nextInt(s.length() + 1), SIGNS.charAt(r.nextInt(SIGNS.length())));
        }
        for (int i = 0; i < s.length(); i++) {
            long word = s.charAt(i);
            if (!due(log, "feed(" + word + ", 1)", x.feed(word, 1), y.feed(word, 1))) return false;
        }
        return due(log, "text(" + use + ") of " + s, x.text(use), y.text(use));
    }
}
