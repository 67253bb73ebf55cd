import java.util.ArrayList;
import java.util.List;
import java.util.function.Supplier;

/**
 * What the tests of bounds share: the sentence of the document that is tried, and a refused call
 * that is held against a twin which was made by the same calls and was not asked.
 */
class Bounds {
    static final int LOW = -1000000000;
    static final int BEYOND = LOW - 1;
    static final int NONE = LOW - 2;
    static final int STATE = LOW - 3;
    static final int FULL = LOW - 4;
    static final int KIND = LOW - 5;
    static final int PARTED = LOW - 6;
    static final int MIN = Integer.MIN_VALUE;
    static final int MAX = Integer.MAX_VALUE;

    interface Call {
        int of(BlinkMoves x);
    }

    interface CallWith {
        int of(BlinkMoves x, int v);
    }

    private static final int ERRORS = 6;
    private static final int SHOWN_MOST = 40;
    private static String sentence = "";
    private static int sentences;
    private static int wrong;

    static void sentence(String words) {
        sentence = words;
        sentences++;
    }

    static void due(int got, int want) {
        if (got != want) {
            tell("answered " + got + ", due is " + want);
        }
    }

    static void finish(String test) {
        if (wrong != 0) {
            System.out.println(test + ": " + wrong + " answers are not as due");
            System.exit(1);
        }
        System.out.println(test + ": fine, " + sentences + " sentences");
    }

    /** The ERROR is answered and counted, and no other thing that can be seen is changed. */
    static void refused(Supplier<BlinkMoves> scene, int error, Call call) {
        int sort = LOW - error;
        BlinkMoves asked = scene.get();
        BlinkMoves twin = scene.get();
        due(call.of(asked), error);
        for (int k = 1; k <= ERRORS; k++) {
            due(asked.told(k), twin.told(k) + (k == sort ? 1 : 0));
        }
        same(asked, twin);
    }

    /** What is only asked changes nothing at all, and is no ERROR. */
    static void onlyAsks(Supplier<BlinkMoves> scene, Call call) {
        BlinkMoves asked = scene.get();
        BlinkMoves twin = scene.get();
        isNoError(call.of(asked));
        for (int k = 1; k <= ERRORS; k++) {
            due(asked.told(k), twin.told(k));
        }
        same(asked, twin);
    }

    /** From least to most it is no ERROR; one below, one above and far away it is BEYOND. */
    static void range(Supplier<BlinkMoves> scene, int least, int most, CallWith call) {
        for (int v = least; v <= most; v++) {
            if (v < least + 3 || v > most - 3) {
                isNoError(call.of(scene.get(), v));
            }
        }
        for (int v : new int[] {least - 1, most + 1, MIN, MAX}) {
            refused(scene, BEYOND, x -> call.of(x, v));
        }
    }

    static BlinkMoves seers(int... beatsAndPhases) {
        return Scenes.seers(beatsAndPhases);
    }

    /** What a USE with a TEXT gives; of use 0 and 1 alike the answer is held. */
    static int gives(int use, String text, int a, int b, int c) {
        BlinkMoves x = new BlinkMoves();
        due(Scenes.text(x, use, text), 1);
        return x.law(use, a, b, c);
    }

    /** The FAULT of a TEXT; -1 if it has none. */
    static int fault(int use, String text) {
        BlinkMoves x = new BlinkMoves();
        int got = Scenes.text(x, use, text);
        due(x.count(4), 0);
        due(x.untell(use), got == 1 ? 1 : 0);
        return got == 1 ? -1 : -10 - got;
    }

    static int shutAt(BlinkMoves x, int tick) {
        x.tick(tick);
        return x.shut();
    }

    /** Who is alone there is SHUT at the TICKS 0, 1, .. that have an x. */
    static void dueShut(int km, int beat, int phase, String shut) {
        BlinkMoves x = new BlinkMoves();
        x.person(km, beat, phase);
        for (int t = 0; t < shut.length(); t++) {
            due(shutAt(x, t), shut.charAt(t) == 'x' ? 1 : 0);
        }
    }

    static void isNoError(int got) {
        if (got < LOW) {
            tell("answered the ERROR LOW - " + (LOW - got));
        }
    }

    static void same(BlinkMoves one, BlinkMoves other) {
        List<String> seen = new Sight(one).all();
        List<String> want = new Sight(other).all();
        for (int i = 0; i < Math.max(seen.size(), want.size()); i++) {
            String s = i < seen.size() ? seen.get(i) : "nothing";
            String w = i < want.size() ? want.get(i) : "nothing";
            if (!s.equals(w)) {
                tell("changed: " + s + ", on the twin " + w);
                return;
            }
        }
    }

    private static void tell(String what) {
        wrong++;
        if (wrong > SHOWN_MOST) {
            return;
        }
        int line = 0;
        for (StackTraceElement at : new Throwable().getStackTrace()) {
            if (at.getClassName().endsWith("Test") && line == 0) {
                line = at.getLineNumber();
            }
        }
        System.out.println("\"" + sentence + "\", line " + line + ": " + what);
    }

    /** All that calls can tell of an object (but told()); what is in the way is changed by it. */
    private static final class Sight {
        private static final int CALLS_MOST = 380;
        private final BlinkMoves x;
        private final List<String> seen = new ArrayList<>();

        Sight(BlinkMoves looked) {
            x = looked;
        }

        private void see(String call, int answer) {
            seen.add(call + " -> " + answer);
        }

        List<String> all() {
            island();
            for (int i = -1; i <= x.count(6); i++) {
                see("body(" + i + ")", x.body(i));
            }
            see("check()", x.check());
            see("text(1)", x.text(1));
            laws();
            sheets();
            see("restore()", x.restore());
            island();
            see("text(0)", x.text(0));
            see("untell(0)", x.untell(0));
            see("untell(1)", x.untell(1));
            see("check()", x.check());
            see("image()", x.image());
            if (seen.size() > CALLS_MOST) {
                see("too many calls for one object", seen.size());
            }
            return seen;
        }

        private void island() {
            for (int what = 0; what <= 7; what++) {
                see("count(" + what + ")", x.count(what));
            }
            for (int p = 0; p < x.count(0); p++) {
                for (int what = 0; what <= 4; what++) {
                    see("personIs(" + p + ", " + what + ")", x.personIs(p, what));
                }
            }
            for (int d = 0; d < x.count(1); d++) {
                for (int what = 0; what <= 3; what++) {
                    see("doingIs(" + d + ", " + what + ")", x.doingIs(d, what));
                }
            }
            laws();
        }

        private void laws() {
            for (int v = -1; v <= 1; v++) {
                see("law(0, 1, " + v + ", 5)", x.law(0, 1, v, 5));
                see("law(1, " + v + ", 4, 3)", x.law(1, v, 4, 3));
            }
        }

        /** Numbers of SHEETS show as PARTS of six DOINGS. */
        private void sheets() {
            see("person(0, 1, 0)", x.person(0, 1, 0));
            for (int i = x.count(1); i < 6; i++) {
                see("doing(0, 0, 0)", x.doing(0, 0, 0));
            }
            for (int s = 0; s < 4; s++) {
                see("judge(" + s + ")", x.judge(s));
                int n = 0;
                while (n < 26 && x.move(s, 0, s, 0, n + 1) == n + 1) {
                    n++;
                }
                see("numbers of " + s, n);
                for (int from = 0; from < n; from += 6) {
                    x.move(s, from, s, 0, Math.min(6, n - from));
                    see("partsAll(" + s + ")", x.partsAll(s));
                    for (int d = 0; d < 6; d++) {
                        see("doingIs(" + d + ", 1) by sheet", x.doingIs(d, 1));
                    }
                }
                see("put(" + s + ", 0, 256)", x.put(s, 0, 256));
                see("partsAll(" + s + ") of 256", x.partsAll(s));
                see("put(" + s + ", 0, 65536)", x.put(s, 0, 65536));
                see("partsAll(" + s + ") of 65536", x.partsAll(s));
            }
        }
    }
}
