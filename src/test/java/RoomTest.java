import java.lang.management.ManagementFactory;
import java.util.Random;

/** Any arguments in any state: every call ends, throws nothing and makes (almost) no object. */
public final class RoomTest {
    private static final int[] ODD = {-1, 0, 0, 0, 1, 1, 1, 2, 2, 3, 3, 4, 5, 6, 7, 8, 12, 16, 23, 24, 25, 31, 32, 60, 63, 64,
        69, 70, 99, 100, 200, 201, 99999, 100000, Integer.MIN_VALUE, Integer.MAX_VALUE, Integer.MIN_VALUE + 1,
        -1000000000, -1000000001};

    public static void main(String[] args) {
        com.sun.management.ThreadMXBean meter =
            (com.sun.management.ThreadMXBean) ManagementFactory.getThreadMXBean();
        long thread = Thread.currentThread().getId();
        Random r = new Random(11);
        int[] v = new int[5];
        long worst = 0;
        for (int run = 0; run < 600; run++) {
            BlinkMoves x = new BlinkMoves();
            x.image();
            for (int i = 0; i < 511; i++) {
                for (int j = 0; j < 5; j++) v[j] = r.nextInt(20) == 0 ? r.nextInt() : ODD[r.nextInt(ODD.length)];
                int act = r.nextInt(40);
                long word = r.nextInt(4) == 0 ? r.nextLong() : '0' + r.nextInt(10);
                long before = meter.getThreadAllocatedBytes(thread);
                call(x, act, v, word);
                long made = meter.getThreadAllocatedBytes(thread) - before;
                if (run > 300) worst = Math.max(worst, made);
            }
        }
        if (worst > 400) {
            System.out.println("a call made " + worst + " bytes of objects");
            System.exit(1);
        }
        System.out.println("RoomTest: fine");
    }

    private static int call(BlinkMoves x, int act, int[] v, long word) {
        switch (act) {
            case 0: return x.person(v[0], v[1], v[2]);
            case 1: return x.personIs(v[0], v[1]);
            case 2: return x.become(v[0], v[1]);
            case 3: return x.as(v[0], v[1]);
            case 4: return x.beats(v[0], v[1], v[2]);
            case 5: return x.doing(v[0], v[1], v[2]);
            case 6: return x.doingIs(v[0], v[1]);
            case 7: return x.sets(v[0], v[1]);
            case 8: return x.shut();
            case 9: return x.feed(word, v[0]);
            case 10: return x.feed(word, 1);
            case 11: return x.text(v[0]);
            case 12: return x.untell(v[0]);
            case 13: return x.law(v[0], v[1], v[2], v[3]);
            case 14: return x.ticks(v[0]);
            case 15: return x.loose(v[0]);
            case 16: return x.tick(v[0]);
            case 17: return x.seed(v[0]);
            case 18: return x.then(v[0], v[1]);
            case 19: return x.soonest(v[0]);
            case 20: return x.moment(v[0]);
            case 21: return x.moments(v[0], v[1]);
            case 22: return x.away(v[0], v[1], v[2]);
            case 23: return x.phaseFor(v[0], v[1], v[2]);
            case 24: return x.odds(v[0], v[1], v[2]);
            case 25: return x.fits(v[0], v[1], v[2]);
            case 26: return x.voice(v[0], v[1], v[2]);
            case 27: return x.body(v[0]);
            case 28: return x.sheet(v[0], v[1], v[2]);
            case 29: return x.put(v[0], v[1], v[2]);
            case 30: return x.move(v[0], v[1], v[2], v[3], v[4]);
            case 31: return x.partsAll(v[0]);
            case 32: return x.judge(v[0]);
            case 33: return x.image();
            case 34: return x.restore();
            case 35: return x.tell(v[0]);
            case 36: return x.check();
            case 37: return x.count(v[0]);
            default: return x.told(v[0]);
        }
    }
}
