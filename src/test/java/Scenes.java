import java.util.function.Supplier;

/** Islands on which the tests of bounds try their calls. */
final class Scenes {
    private static final int[] KM = {5, 13, 24, 36, 42, 62};
    private static final int[] BEAT = {3, 4, 5, 6, 2, 12};
    private static final int[] PHASE = {0, 1, 2, 5, 1, 11};
    private static final int[] WHO = {0, 1, 2, 3, 4, 5};
    private static final int[] PARTS = {5, 8, 99, 3, 0, 9};
    private static final int[] WATCHERS = {2, 5, 1, 7, 3, 31};

    private Scenes() {
    }

    static void write(BlinkMoves x, String text) {
        for (int i = 0; i < text.length(); i++) {
            x.feed(text.charAt(i), 1);
        }
    }

    static int text(BlinkMoves x, int use, String text) {
        write(x, text);
        return x.text(use);
    }

    /** Of everything something, in the image another thing; sheets 8, 16, 32 bits and missing. */
    private static BlinkMoves some(int people, int doings) {
        BlinkMoves x = new BlinkMoves();
        for (int p = 0; p < people; p++) {
            x.person(KM[p], BEAT[p], PHASE[p]);
        }
        for (int d = 0; d < doings; d++) {
            x.doing(WHO[d], PARTS[d], WATCHERS[d]);
        }
        text(x, 0, "s");
        write(x, "r");
        x.tell(PARTS[0]);
        x.seed(77);
        x.tick(7);
        x.image();
        x.image();
        x.text(1);
        text(x, 0, "s|t=5");
        text(x, 1, "p+o/2");
        write(x, "l%7+p");
        x.tell(PARTS[1]);
        x.sets(0, 4);
        x.check();
        x.tell(4);
        x.tell(PARTS[1]);
        x.beats(1, 5, 3);
        x.become(1, 14);
        x.seed(12345);
        x.tick(40);
        x.voice(1, 3, 7);
        sheetsOf(x);
        return x;
    }

    private static void sheetsOf(BlinkMoves x) {
        int[] bits = {8, 16, 32};
        int[] n = {3, 7, 24};
        for (int s = 0; s < 3; s++) {
            x.sheet(s, bits[s], n[s]);
            for (int i = 0; i < n[s]; i++) {
                x.put(s, i, 10 * s + i);
            }
        }
    }

    /** No more PEOPLE and DOINGS can come. */
    static BlinkMoves full() {
        return some(6, 6);
    }

    /** Three PEOPLE and two DOINGS: more can come. */
    static BlinkMoves roomy() {
        return some(3, 2);
    }

    /** As full, but no DOING has PARTS left. */
    static BlinkMoves idle() {
        BlinkMoves x = full();
        for (int d = 0; d < 6; d++) {
            x.sets(d, 0);
        }
        return x;
    }

    /** As full, with TICK at its end. */
    static BlinkMoves late() {
        BlinkMoves x = full();
        x.tick(99999);
        return x;
    }

    static Supplier<BlinkMoves> fullAt(int tick) {
        return () -> {
            BlinkMoves x = full();
            x.tick(tick);
            return x;
        };
    }

    /** As roomy, with so many bytes on THE TAPE that tell of their place. */
    static Supplier<BlinkMoves> tape(int bytes) {
        return () -> {
            BlinkMoves x = roomy();
            x.text(1);
            for (int i = 0; i < bytes; i++) {
                x.feed(i == bytes - 1 || i % 2 == 0 ? '1' : '+', 1);
            }
            return x;
        };
    }

    /** As full, with so many numbers that wait. */
    static Supplier<BlinkMoves> waiting(int numbers) {
        return () -> {
            BlinkMoves x = full();
            x.check();
            for (int i = 0; i < numbers; i++) {
                x.tell(i < 6 ? x.doingIs(i, 1) : i);
            }
            return x;
        };
    }

    /** As full, with four SHEETS of no numbers at all. */
    static BlinkMoves emptySheets() {
        return sheetsOfSize(0);
    }

    static BlinkMoves sheetsOfOne() {
        return sheetsOfSize(1);
    }

    private static BlinkMoves sheetsOfSize(int n) {
        BlinkMoves x = full();
        for (int s = 0; s < 4; s++) {
            x.sheet(s, 8 << (s % 3), n);
        }
        return x;
    }

    /** People who are SEERS with m 0, by BEATS and PHASES. */
    static BlinkMoves seers(int... beatsAndPhases) {
        BlinkMoves x = new BlinkMoves();
        for (int i = 0; i + 1 < beatsAndPhases.length; i += 2) {
            x.person(0, beatsAndPhases[i], beatsAndPhases[i + 1]);
        }
        return x;
    }

    /** Beats 11, 12 and 7 meet at 923 and 924 behind it; number 3, who is watched, does one part. */
    static BlinkMoves rareMeeting(int tick) {
        BlinkMoves x = seers(11, 1, 12, 1, 7, 1, 1, 0);
        x.doing(3, 1, 7);
        x.tick(tick);
        return x;
    }
}
