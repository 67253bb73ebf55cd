/** Each promise by itself, with answers worked out by hand: ordinary, at the edges, and wrong. */
public final class PromisesTest {
    private static final int BEYOND = -1000000001;
    private static final int NONE = -1000000002;
    private static final int STATE = -1000000003;
    private static final int FULL = -1000000004;
    private static final int KIND = -1000000005;
    private static final int PARTED = -1000000006;
    private static final int[] FAR = {Integer.MIN_VALUE, -2, -1, Integer.MAX_VALUE};

    private static int wrong = 0;
    private static int promise;
    private static int calls;

    private static void due(int got, int want) {
        calls++;
        if (got != want) {
            wrong++;
            StackTraceElement at = new Throwable().getStackTrace()[1];
            System.out.println("promise " + promise + ", line " + at.getLineNumber() + ": answered " + got + ", due is " + want);
        }
    }

    private static BlinkMoves fresh(int number) {
        promise = number;
        return new BlinkMoves();
    }

    private static int tell(BlinkMoves x, int use, String text) {
        for (int i = 0; i < text.length(); i++) x.feed(text.charAt(i), 1);
        return x.text(use);
    }

    public static void main(String[] args) {
        start();
        people();
        kinds();
        doings();
        feeding();
        texts();
        usesOfTexts();
        ticks();
        draws();
        ahead();
        awayAndPhases();
        oddsAndFits();
        voices();
        parted();
        sheets();
        moving();
        sheetsOfPeople();
        images();
        waiting();
        counts();
        if (wrong != 0) System.exit(1);
        System.out.println("PromisesTest: fine, " + calls + " calls");
    }

    private static void start() {
        BlinkMoves x = fresh(1);
        for (int i = 0; i < 7; i++) due(x.count(i), 0);
        due(x.count(7), 1);
        due(x.shut(), 0);
        due(x.restore(), NONE);
        due(x.body(0), NONE);
        due(x.untell(0), 0);
        due(x.untell(1), 0);
        for (int i = 0; i < 4; i++) due(x.judge(i), NONE);
        due(x.told(1), 0);
        due(x.told(2), 6);
    }

    private static void people() {
        BlinkMoves x = fresh(2);
        due(x.person(-1, 1, 0), BEYOND);
        due(x.person(70, 1, 0), BEYOND);
        due(x.person(0, 0, 0), BEYOND);
        due(x.person(0, 13, 0), BEYOND);
        due(x.person(0, 5, 5), BEYOND);
        due(x.person(0, 5, -1), BEYOND);
        for (int far : FAR) {
            due(x.person(far, 5, 0), BEYOND);
            due(x.person(0, far, 0), BEYOND);
            due(x.person(0, 5, far), BEYOND);
        }
        due(x.count(0), 0);
        due(x.person(69, 12, 11), 0);
        due(x.person(0, 1, 0), 1);
        for (int i = 2; i < 6; i++) due(x.person(10 * i + i, i, i - 1), i);
        due(x.person(0, 1, 0), FULL);
        due(x.person(0, 1, 1), BEYOND);
        due(x.count(0), 6);

        promise = 3;
        due(x.personIs(0, 0), 6);
        due(x.personIs(0, 1), 9);
        due(x.personIs(0, 2), 12);
        due(x.personIs(0, 3), 11);
        due(x.personIs(0, 4), 0);
        due(x.personIs(1, 4), 1);
        due(x.personIs(4, 0), 4);
        due(x.personIs(4, 1), 4);
        due(x.personIs(6, 0), BEYOND);
        due(x.personIs(0, 5), BEYOND);
        for (int far : FAR) {
            due(x.personIs(far, 0), BEYOND);
            due(x.personIs(0, far), BEYOND);
        }

        promise = 4;
        due(x.become(0, 34), 6);
        due(x.personIs(0, 0), 3);
        due(x.personIs(0, 1), 4);
        due(x.personIs(0, 2), 12);
        due(x.personIs(0, 3), 11);
        due(x.become(0, 0), 3);
        due(x.become(0, 69), 0);
        due(x.become(0, 70), BEYOND);
        due(x.become(0, -1), BEYOND);
        due(x.become(6, 0), BEYOND);
        for (int far : FAR) {
            due(x.become(far, 0), BEYOND);
            due(x.become(0, far), BEYOND);
        }
        due(x.personIs(0, 0), 6);

        promise = 6;
        due(x.beats(0, 1, 0), 12);
        due(x.personIs(0, 2), 1);
        due(x.personIs(0, 3), 0);
        due(x.beats(0, 12, 11), 1);
        due(x.beats(0, 12, 12), BEYOND);
        due(x.beats(0, 0, 0), BEYOND);
        due(x.beats(0, 13, 0), BEYOND);
        due(x.beats(6, 1, 0), BEYOND);
        for (int far : FAR) {
            due(x.beats(far, 1, 0), BEYOND);
            due(x.beats(0, far, 0), BEYOND);
            due(x.beats(0, 3, far), BEYOND);
        }
        due(x.personIs(0, 2), 12);
        due(x.personIs(0, 3), 11);
    }

    private static void kinds() {
        BlinkMoves x = fresh(5);
        int[] above = {0, 0, 0, 0, 1, 2, 0};
        due(x.as(0, 0), BEYOND);
        x.person(7, 1, 0);
        for (int kind = 0; kind < 7; kind++) {
            x.become(0, 10 * kind + 7);
            for (int as = 0; as < 7; as++) {
                due(x.as(0, as), as == kind || as == above[kind] || as == 0 ? 7 : KIND);
            }
            due(x.as(0, 7), BEYOND);
            due(x.as(1, 0), BEYOND);
        }
        for (int far : FAR) {
            due(x.as(far, 0), BEYOND);
            due(x.as(0, far), BEYOND);
        }
    }

    private static void doings() {
        BlinkMoves x = fresh(7);
        due(x.doing(0, 1, 0), BEYOND);
        x.person(5, 3, 0);
        due(x.doing(0, 99, 0), 0);
        due(x.doing(0, 0, 0), 1);
        due(x.doing(0, 1, 1), BEYOND);
        due(x.doing(0, 1, 2), BEYOND);
        x.person(16, 3, 0);
        x.person(30, 3, 0);
        due(x.doing(1, 100, 5), BEYOND);
        due(x.doing(1, -1, 5), BEYOND);
        due(x.doing(3, 1, 0), BEYOND);
        due(x.doing(1, 1, 8), BEYOND);
        due(x.doing(1, 1, 7), BEYOND);
        for (int far : FAR) {
            due(x.doing(far, 1, 0), BEYOND);
            due(x.doing(0, far, 0), BEYOND);
            due(x.doing(0, 1, far), BEYOND);
        }
        due(x.doing(1, 7, 5), 2);
        due(x.doing(2, 1, 3), 3);
        due(x.doing(2, 1, 3), 4);
        due(x.doing(2, 1, 3), 5);
        due(x.doing(2, 1, 3), FULL);
        due(x.doing(2, 1, 4), BEYOND);
        due(x.count(1), 6);

        promise = 8;
        due(x.doingIs(2, 0), 1);
        due(x.doingIs(2, 1), 7);
        due(x.doingIs(2, 2), 5);
        due(x.doingIs(0, 3), 1);
        due(x.doingIs(2, 3), 3);
        due(x.doingIs(3, 3), 7);
        due(x.doingIs(6, 0), BEYOND);
        due(x.doingIs(0, 4), BEYOND);
        for (int far : FAR) {
            due(x.doingIs(far, 0), BEYOND);
            due(x.doingIs(0, far), BEYOND);
        }
        int[] tries = {1, 3, 1, 7, 6, 4, 0};
        for (int kind = 0; kind < 7; kind++) {
            x.become(1, 10 * kind + 9);
            due(x.doingIs(2, 3), tries[kind]);
        }
        x.become(1, 14);
        due(x.doingIs(2, 3), 2);
        x.become(1, 44);
        due(x.doingIs(2, 3), 4);

        promise = 9;
        due(x.sets(2, 99), 7);
        due(x.sets(2, 0), 99);
        due(x.sets(2, 100), BEYOND);
        due(x.sets(2, -1), BEYOND);
        due(x.sets(6, 1), BEYOND);
        for (int far : FAR) {
            due(x.sets(far, 1), BEYOND);
            due(x.sets(2, far), BEYOND);
        }
        due(x.doingIs(2, 1), 0);
    }

    /** One of each kind with beat 4, phase 1 (rest 0 at 3, 7, 11, ..), looked at at many ticks. */
    private static void blinksOf(int km, String shutAt) {
        BlinkMoves x = fresh(10);
        x.person(km, 4, 1);
        for (int t = 0; t < shutAt.length(); t++) {
            x.tick(t);
            due(x.shut(), shutAt.charAt(t) == 'x' ? 1 : 0);
            due(x.personIs(0, 4), shutAt.charAt(t) == 'x' ? 1 : 0);
        }
    }

    private static void feeding() {
        //              0   4   8   12  16  20  24
        blinksOf(5, "...x...x...x...x...x...x...x");
        blinksOf(15, "...x...x...x...x...x...x...x");
        blinksOf(26, ".......x...x.......x...x....");
        blinksOf(25, "...x...x.......x...x.......x");
        blinksOf(35, "x..xx..xx..xx..xx..xx..xx..x");
        blinksOf(45, "...x.x.x...x...x.x.x...x...x");
        blinksOf(56, "............................");
        blinksOf(57, "...x.......x...x.......x...x");
        blinksOf(69, "..xx...x.x.x...xx..x...x...x");
        BlinkMoves x = fresh(10);
        x.person(0, 2, 0);
        x.person(0, 2, 1);
        x.person(0, 1, 0);
        due(x.shut(), 5);
        x.tick(1);
        due(x.shut(), 6);

        x = fresh(11);
        due(x.feed(0, 0), BEYOND);
        due(x.feed(0, 9), BEYOND);
        for (int far : FAR) due(x.feed(0, far), BEYOND);
        due(x.feed(-1L, 8), 8);
        due(x.feed(0x3130L, 1), 9);
        for (int i = 2; i <= 7; i++) due(x.feed(0L, 8), 8 * i + 1);
        due(x.feed(0L, 4), FULL);
        due(x.feed(0L, 9), BEYOND);
        due(x.feed(0L, 3), 60);
        due(x.feed(0L, 1), FULL);
        due(x.count(4), 60);
        due(x.text(0), -10);
        x = fresh(11);
        x.feed(0x2B2B3433322B31L, 5);   // 1+234
        due(x.text(0), 1);
        x.feed(0x3D3733312D73L, 6);     // s-137=
        due(x.text(0), -16);
    }

    private static void texts() {
        BlinkMoves x = fresh(12);
        due(x.text(0), -10);
        x.feed('s', 1);
        due(x.text(2), BEYOND);
        due(x.text(-1), BEYOND);
        due(x.count(4), 1);
        due(x.text(0), 1);
        due(x.count(4), 0);
        due(tell(x, 0, "r+"), -12);
        due(x.untell(0), 1);
        String[] faults = {"p", "r 1", "1r", "rr", "12345", "1+", "r<s<t", "r=s>t", "r<s|t<s&t=1", "(r", "(r))", "()",
            "!", "!!!!!!r", "((((((r", "!(!(!(r", "!(!(!r))", "r+*s", "+r", "-1", "r!", "!r!", "(r<s)<t", "r<(s<t", "9999",
            "((((r)))))", "!!!!!r+!!!!!r", "!!!!!12345", "(1)(", "r\u00e9", "\u0000", "1;", "r&&s", "1|2&3=4+5*6", "r/s%t*1-2+3"};
        int[] due = {0, 1, 1, 1, 4, 2, 3, 3, -1, 2, 3, 1,
            1, 5, 5, 5, -1, 2, 0, 0, 1, 2, -1, 6, -1,
            9, -1, 9, 3, 1, 0, 1, 2, -1, -1};
        for (int i = 0; i < faults.length; i++) due(tell(x, 0, faults[i]), due[i] < 0 ? 1 : -10 - due[i]);
        due(tell(x, 1, "r"), -10);
        due(tell(x, 1, "p+o*l"), 1);
        due(tell(x, 0, "o"), -10);
        due(x.count(4), 0);

        promise = 13;
        due(x.untell(1), 1);
        due(x.untell(1), 0);
        due(x.untell(0), 1);
        due(x.untell(2), BEYOND);
        for (int far : FAR) due(x.untell(far), BEYOND);

        promise = 14;
        due(x.law(0, 5, 1, 5), 1);
        due(x.law(0, 5, 0, 5), 0);
        due(x.law(0, 5, 7, 5), 1);
        due(x.law(0, 5, -7, 5), 0);
        due(x.law(1, 5, 1, 1), 5);
        due(x.law(1, 10, 1, 1), 9);
        due(x.law(1, -10, 1, 1), 0);
        due(x.law(2, 0, 0, 0), BEYOND);
        for (int far : FAR) due(x.law(far, 0, 0, 0), BEYOND);
        String[] laws = {"p-o-l", "p-(o-l)", "9/2*2", "7%4%2", "1+2*3", "!p+1", "!(p+1)", "!!p", "0|4&2",
            "p<o", "p=o", "p>o", "p/0", "p%0", "1/p", "0-7/2+9", "(0-7)%4+9", "5&0|8", "1|0&0",
            "(0-2)*(0-4)", "2>1+0", "0007", "p|o", "p&l", "(0-1)|0", "l", "o-3<0-1|p"};
        int[] gives = {2, 2, 8, 1, 7, 1, 0, 1, 1,
            0, 0, 1, 0, 0, 0, 6, 6, 1, 1,
            8, 1, 7, 1, 0, 1, 0, 1};
        for (int i = 0; i < laws.length; i++) {
            due(tell(x, 1, laws[i]), 1);
            due(x.law(1, 4, 2, 0), gives[i]);
        }
        // 9999 * 9999 * 9999 is 999700029999, and -1027349969 as an int
        due(tell(x, 1, "9999*9999*9999=p"), 1);
        due(x.law(1, -1027349969, 0, 0), 1);
        due(tell(x, 1, "9999*9999*9999<0"), 1);
        due(x.law(1, 0, 0, 0), 1);
        due(tell(x, 1, "(p/o=p)+(p%o=0)*2"), 1);
        due(x.law(1, Integer.MIN_VALUE, -1, 0), 3);
        due(tell(x, 1, "l+1<l"), 1);
        due(x.law(1, 0, 0, Integer.MAX_VALUE), 1);
    }

    private static void usesOfTexts() {
        BlinkMoves x = fresh(12);
        x.person(5, 3, 0);
        x.person(12, 4, 1);
        x.doing(1, 20, 1);
        tell(x, 0, "r=2|t=0");
        due(x.shut(), 3);
        x.tick(24);
        due(x.shut(), 3);
        x.tick(2);
        due(x.shut(), 1);
        due(x.personIs(0, 4), 1);
        x.tick(1);
        due(x.shut(), 2);
        due(x.moment(3), 4);
        tell(x, 0, "!s");
        x.tick(0);
        due(x.shut(), 2);
        x.tick(3);
        due(x.shut(), 0);
        tell(x, 0, "s*5");
        due(x.shut(), 3);
        tell(x, 0, "0-s");
        due(x.shut(), 0);
        tell(x, 0, "1");
        tell(x, 1, "p*100+o*10+l");
        due(x.doingIs(0, 3), 9);
        tell(x, 1, "o+l/5");
        due(x.doingIs(0, 3), 5);
        due(x.then(0, 1), 15);
        due(x.then(0, 2), 11);
        due(x.then(0, 3), 8);
        due(x.soonest(0), 9);
        x.sets(0, 0);
        due(x.doingIs(0, 3), 1);
        tell(x, 1, "0-1");
        x.sets(0, 4);
        due(x.doingIs(0, 3), 0);
        due(x.soonest(0), NONE);
        x.untell(1);
        due(x.soonest(0), 2);
    }

    private static void ticks() {
        BlinkMoves x = fresh(15);
        x.person(5, 3, 0);
        x.person(15, 2, 0);
        x.doing(0, 2, 2);     // gets on by 1 at even ticks
        x.doing(1, 4, 1);     // by 3 at 0, 3, 6
        x.doing(0, 0, 0);
        x.doing(0, 1, 0);
        due(x.ticks(1), 1);
        due(x.doingIs(0, 1), 1);
        due(x.doingIs(1, 1), 1);
        due(x.doingIs(3, 1), 0);
        due(x.ticks(2), 1);
        due(x.doingIs(0, 1), 0);
        due(x.doingIs(1, 1), 1);
        due(x.ticks(1), 1);
        due(x.count(3), 0);
        due(x.count(2), 4);
        due(x.ticks(200), 0);
        due(x.count(2), 204);
        due(x.ticks(0), BEYOND);
        due(x.ticks(201), BEYOND);
        for (int far : FAR) due(x.ticks(far), BEYOND);
        x.tick(99999);
        due(x.ticks(1), STATE);
        due(x.ticks(201), BEYOND);
        x.tick(99800);
        due(x.ticks(200), STATE);
        due(x.count(2), 99800);
        due(x.ticks(199), 0);
        due(x.count(2), 99999);

        promise = 17;
        due(x.tick(0), 99999);
        due(x.tick(99999), 0);
        due(x.tick(100000), BEYOND);
        due(x.tick(-1), BEYOND);
        for (int far : FAR) due(x.tick(far), BEYOND);
        due(x.count(2), 99999);
    }

    private static void draws() {
        BlinkMoves x = fresh(16);
        x.seed(99);
        due(x.loose(30), 0);
        due(x.count(7), 99);
        due(x.count(2), 30);
        due(x.loose(0), BEYOND);
        due(x.loose(31), BEYOND);
        for (int far : FAR) due(x.loose(far), BEYOND);
        x.tick(99970);
        due(x.loose(30), STATE);
        due(x.loose(31), BEYOND);
        due(x.loose(29), 0);
        due(x.count(2), 99999);
        x.tick(0);
        x.person(0, 12, 0);
        x.person(0, 12, 0);
        x.person(0, 11, 0);
        int[] phases = {0, 0, 0};
        int[] beats = {12, 12, 11};
        int z = 5;
        x.seed(5);
        for (int i = 0; i < 60; i++) {
            z = z * 1103515245 + 12345;
            if ((z >>> 8) % 4 == 0) {
                z = z * 1103515245 + 12345;
                int who = (z >>> 8) % 3;
                z = z * 1103515245 + 12345;
                phases[who] = (z >>> 8) % beats[who];
            }
            due(x.loose(1), 0);
            due(x.count(7), z);
            for (int p = 0; p < 3; p++) due(x.personIs(p, 3), phases[p]);
        }
        x = fresh(16);
        x.person(0, 1, 0);
        x.doing(0, 3, 0);
        due(x.loose(2), 0);
        due(x.loose(2), 1);
        due(x.count(3), 0);

        promise = 18;
        due(x.seed(Integer.MIN_VALUE) == x.count(7) ? 1 : 0, 0);
        due(x.seed(BEYOND), Integer.MIN_VALUE);
        due(x.seed(0), BEYOND);
        due(x.count(7), 0);
        due(x.told(1), 0);
    }

    private static void ahead() {
        BlinkMoves x = fresh(19);
        due(x.then(0, 0), BEYOND);
        x.person(5, 3, 0);
        x.person(15, 5, 1);
        x.doing(1, 7, 1);     // by 3 at 0, 3, 6, ..
        due(x.then(0, 0), 7);
        due(x.then(0, 1), 4);
        due(x.then(0, 3), 4);
        due(x.then(0, 4), 1);
        due(x.then(0, 6), 1);
        due(x.then(0, 7), 0);
        due(x.then(0, 200), 0);
        due(x.then(0, 201), BEYOND);
        due(x.then(1, 0), BEYOND);
        for (int far : FAR) {
            due(x.then(far, 0), BEYOND);
            due(x.then(0, far), BEYOND);
        }
        due(x.count(2), 0);
        due(x.doingIs(0, 1), 7);

        promise = 20;
        due(x.soonest(0), 7);
        due(x.soonest(1), BEYOND);
        for (int far : FAR) due(x.soonest(far), BEYOND);
        x.sets(0, 0);
        due(x.soonest(0), 0);
        x.sets(0, 99);
        due(x.soonest(0), 97);
        x.tick(99999);
        due(x.soonest(0), 97);
        due(x.then(0, 97), 0);
        x.tick(0);
        x.become(1, 0);
        x.beats(0, 2, 0);
        due(x.soonest(0), 197);
        x.tick(1);
        due(x.soonest(0), 198);
        x.beats(0, 3, 0);
        due(x.soonest(0), NONE);
        x.sets(0, 67);        // at 3, 6, .. 201: the last is behind 201 - 1 + 1 = 201
        due(x.soonest(0), NONE);
        x.tick(2);
        due(x.soonest(0), 200);

        promise = 21;
        x.tick(0);
        due(x.moment(0), 0);
        due(x.moment(1), 0);
        due(x.moment(2), 4);
        due(x.moment(3), 9);
        due(x.moment(4), BEYOND);
        for (int far : FAR) due(x.moment(far), BEYOND);
        x.beats(0, 12, 0);
        x.beats(1, 12, 1);
        due(x.moment(3), NONE);
        x.tick(99999);
        due(x.moment(1), 9);
        x = fresh(21);        // the first two meet at 131 and each 132 behind it, with a third by 7 at 923
        x.person(0, 11, 1);
        x.person(0, 12, 1);
        x.person(0, 10, 9);
        x.tick(0);
        due(x.moment(3), 131);
        due(x.moment(7), 131);
        x.beats(2, 7, 1);
        due(x.moment(7), NONE);
        x.tick(924 - 1 - 400);
        due(x.moment(7), 400);
        x.tick(924 - 1 - 401);
        due(x.moment(7), NONE);

        promise = 22;
        x.tick(0);
        due(x.moments(1, 0), 0);
        due(x.moments(1, 10), 0);
        due(x.moments(1, 11), 1);
        due(x.moments(1, 99), 9);
        due(x.moments(0, 99), 99);
        due(x.moments(1, 100), BEYOND);
        due(x.moments(8, 1), BEYOND);
        for (int far : FAR) {
            due(x.moments(far, 1), BEYOND);
            due(x.moments(1, far), BEYOND);
        }
    }

    private static void awayAndPhases() {
        BlinkMoves x = fresh(23);
        due(x.away(0, 0, 0), BEYOND);
        x.person(0, 1, 0);
        x.person(0, 2, 0);
        x.person(0, 3, 0);
        x.person(0, 3, 0);
        x.doing(0, 3, 14);
        due(x.away(0, 13, 0), 0);
        due(x.away(0, 13, 1), 0);
        due(x.away(0, 12, 0), 1);
        due(x.away(0, 12, 1), 2);
        due(x.away(0, 7, 1), 2);
        due(x.away(0, 6, 0), 2);
        due(x.away(0, 6, 1), 12);
        due(x.away(0, 5, 1), 12);
        due(x.away(0, 4, 0), 3);
        due(x.away(0, 4, 1), 14);
        due(x.away(0, 3, 0), 3);
        due(x.away(0, 2, 0), NONE);
        due(x.away(0, 2, 1), NONE);
        due(x.away(0, 0, 0), NONE);
        x.sets(0, 0);
        due(x.away(0, 0, 0), 0);
        due(x.away(0, 0, 1), 0);
        x.sets(0, 1);
        due(x.away(0, 1, 0), 0);
        x.sets(0, 99);
        due(x.away(0, 99, 1), 14);
        due(x.away(0, 100, 0), BEYOND);
        due(x.away(0, 1, 2), BEYOND);
        due(x.away(1, 1, 0), BEYOND);
        for (int far : FAR) {
            due(x.away(far, 1, 0), BEYOND);
            due(x.away(0, far, 0), BEYOND);
            due(x.away(0, 1, far), BEYOND);
        }
        due(x.doingIs(0, 2), 14);
        x.sets(0, 2);         // who looks away is still one of the others who are SHUT
        tell(x, 1, "o=2");
        x.beats(3, 3, 1);
        due(x.away(0, 4, 1), 12);
        x.beats(3, 3, 0);
        due(x.away(0, 4, 0), NONE);
        due(x.away(0, 10, 0), 1);
        due(x.away(0, 10, 1), 2);

        x = fresh(24);
        due(x.phaseFor(0, 0, 0), BEYOND);
        x.person(0, 4, 3);
        x.person(0, 6, 2);
        x.person(0, 5, 2);
        due(x.phaseFor(0, 0, 0), BEYOND);
        x.doing(0, 2, 2);
        due(x.phaseFor(1, 0, 0), 0);
        due(x.phaseFor(1, 0, 1), 7);
        due(x.phaseFor(0, 0, 0), 0);
        due(x.phaseFor(0, 0, 1), 11);
        due(x.phaseFor(2, 0, 1), 11);
        x.tick(3);
        due(x.phaseFor(1, 0, 0), 3);
        due(x.phaseFor(1, 0, 1), 7);
        x.sets(0, 0);
        due(x.phaseFor(1, 0, 0), 0);
        due(x.phaseFor(1, 0, 1), 0);
        x.sets(0, 17);
        due(x.phaseFor(1, 0, 1), 97);
        x.sets(0, 18);
        due(x.phaseFor(1, 0, 0), NONE);
        due(x.phaseFor(1, 0, 1), NONE);
        x.beats(1, 1, 0);
        x.sets(0, 99);
        due(x.phaseFor(1, 0, 1), 99);
        due(x.phaseFor(1, 0, 2), BEYOND);
        due(x.phaseFor(3, 0, 0), BEYOND);
        due(x.phaseFor(0, 1, 0), BEYOND);
        for (int far : FAR) {
            due(x.phaseFor(far, 0, 0), BEYOND);
            due(x.phaseFor(0, far, 0), BEYOND);
            due(x.phaseFor(0, 0, far), BEYOND);
        }
        due(x.personIs(0, 3), 3);
        due(x.personIs(1, 3), 0);
        x.beats(1, 6, 2);     // one who watches nothing is still counted among the others
        tell(x, 1, "o=2");
        x.tick(0);
        x.sets(0, 1);
        due(x.phaseFor(2, 0, 0), 1);
        due(x.phaseFor(2, 0, 1), 5);
    }

    private static void oddsAndFits() {
        BlinkMoves x = fresh(25);
        due(x.odds(0, 99, 0), 1);
        due(x.odds(0, 99, 1), 1);
        due(x.odds(1, 1, 0), BEYOND);
        x.person(0, 3, 1);
        due(x.odds(1, 9, 0), 1);
        due(x.odds(1, 9, 1), 3);
        due(x.odds(1, 2, 0), 0);
        due(x.odds(1, 2, 1), 1);
        due(x.odds(1, 8, 0), 1);
        due(x.odds(1, 8, 1), 4);
        due(x.odds(1, 98, 0), 16);
        due(x.odds(1, 98, 1), 49);
        due(x.odds(1, 0, 0), BEYOND);
        due(x.odds(1, 100, 0), BEYOND);
        due(x.odds(1, 1, 2), BEYOND);
        due(x.odds(2, 1, 0), BEYOND);
        for (int far : FAR) {
            due(x.odds(far, 1, 0), BEYOND);
            due(x.odds(0, far, 0), BEYOND);
            due(x.odds(0, 1, far), BEYOND);
        }

        x = fresh(26);
        x.person(0, 3, 1);
        due(x.fits(0, 0, 0), NONE);
        due(x.fits(0, 0, 2), BEYOND);
        due(x.fits(0, 1, 0), BEYOND);
        due(x.fits(4, 0, 0), BEYOND);
        for (int far : FAR) {
            due(x.fits(far, 0, 0), BEYOND);
            due(x.fits(0, far, 0), BEYOND);
            due(x.fits(0, 0, far), BEYOND);
        }
        x.sheet(0, 8, 0);
        due(x.fits(0, 0, 0), 78);
        due(x.fits(0, 0, 1), 100);
        x.sheet(0, 8, 1);
        due(x.fits(0, 0, 0), 66);
        due(x.fits(0, 0, 1), 201);
        x.put(0, 0, 1);
        due(x.fits(0, 0, 0), 12);
        due(x.fits(0, 0, 1), 100);
        x.sheet(0, 32, 24);
        due(x.fits(0, 0, 0), 0);
        due(x.fits(0, 0, 1), NONE);
        x.put(0, 5, 1);
        x.put(0, 16, 1);
        due(x.fits(0, 0, 0), 1);
        due(x.fits(0, 0, 1), 1106);
        x.tick(7);
        due(x.fits(0, 0, 1), 1110);
        x.sheet(0, 32, 1);
        x.put(0, 0, 257);
        due(x.fits(0, 0, 0), 0);
        x.sheet(0, 8, 1);
        x.put(0, 0, 257);
        due(x.fits(0, 0, 0), 12);
        x.become(0, 40);      // by the ticks of a lover alone every beat fits where t by 12 is 0
        x.tick(12);
        due(x.fits(0, 0, 0), 78);
    }

    /** What a voice of a kind says (m 3, number 1) to 10, and the bodies in order. */
    private static void says(int kind, int voice, int want, int... bodies) {
        BlinkMoves x = fresh(27);
        x.person(0, 1, 0);
        x.person(10 * kind + 3, 1, 0);
        due(x.voice(1, voice, 10), want);
        promise = 28;
        due(x.count(6), bodies.length);
        for (int i = 0; i < bodies.length; i++) due(x.body(i), bodies[i]);
        due(x.body(bodies.length), NONE);
        for (int far : FAR) due(x.body(far), NONE);
    }

    private static void voices() {
        says(0, 0, 11, 10);
        says(0, 1, 22, 11, 10);
        says(0, 2, 19, 12, 11, 10);
        says(0, 3, 5, 13);
        says(1, 0, 7, 20, 10);
        says(1, 1, 14, 11, 20, 10);
        says(1, 2, 11, 12, 11, 20, 10);
        says(1, 3, 5 - 4, 21, 13, 11, 20, 10);
        says(2, 0, 11, 10);
        says(2, 1, -22, 30, 11, 10);
        says(2, 2, -25, 12, 30, 11, 10);
        says(2, 3, 5, 13);
        says(3, 0, 11, 10);
        says(3, 1, 22, 11, 10);
        says(3, 2, 9, 40, 12, 11, 10);
        says(3, 3, 5, 13);
        says(4, 0, 21, 50, 20, 10);
        says(4, 1, 42, 11, 50, 20, 10);
        says(4, 2, 39 ^ 1, 51, 12, 11, 50, 20, 10);
        says(4, 3, 5 - 12, 21, 13, 11, 50, 20, 10);
        says(5, 0, 11, 10);
        says(5, 1, -24, 60, 30, 11, 10);
        says(5, 2, -27, 12, 60, 30, 11, 10);
        says(5, 3, 5, 13);
        says(6, 0, 9, 70);
        says(6, 1, 21, 71, 11, 70);
        says(6, 2, 18, 12, 71, 11, 70);
        says(6, 3, 5, 13);
        BlinkMoves x = fresh(27);
        x.person(5, 1, 0);
        due(x.voice(0, 3, -9), -1);
        due(x.voice(0, 1, Integer.MAX_VALUE), -2);
        due(x.voice(0, 0, BEYOND), BEYOND);
        due(x.told(1), 0);
        x.become(0, 35);
        due(x.voice(0, 2, -3), -7);
        x.person(0, 1, 0);
        due(x.voice(1, 3, Integer.MIN_VALUE), Integer.MIN_VALUE);
        due(x.count(6), 1);
        due(x.voice(1, 4, 0), BEYOND);
        due(x.voice(2, 0, 0), BEYOND);
        for (int far : FAR) {
            due(x.voice(far, 0, 0), BEYOND);
            due(x.voice(0, far, 0), BEYOND);
        }
        due(x.body(0), 13);
    }

    private static void parted() {
        BlinkMoves x = fresh(27);
        x.person(10, 1, 0);
        x.person(1, 1, 0);
        x.person(42, 1, 0);
        partedBehind(x, 0, 21, 13);
        partedBehind(x, 1, 13);
        partedBehind(x, 2, 21, 13);
        due(x.told(6), 3);
        due(x.voice(3, 3, 5), BEYOND);
        due(x.count(6), 2);
        due(x.voice(1, 0, 5), 6);
        due(x.count(6), 1);
        due(x.body(0), 10);
        x.image();
        partedBehind(x, 1, 13);
        x.restore();
        due(x.body(0), 13);
    }

    /** Longer bodies ahead, so that what they left would show. */
    private static void partedBehind(BlinkMoves x, int person, int... bodies) {
        x.voice(person, 2, 4);
        due(x.voice(person, 3, 5), PARTED);
        due(x.count(6), bodies.length);
        for (int i = 0; i < bodies.length; i++) due(x.body(i), bodies[i]);
        due(x.body(bodies.length), NONE);
    }

    private static void sheets() {
        BlinkMoves x = fresh(29);
        due(x.sheet(0, 8, 24), 1);
        due(x.sheet(3, 32, 0), 1);
        due(x.sheet(4, 8, 1), BEYOND);
        due(x.sheet(4, 8, -1), BEYOND);
        due(x.sheet(0, 9, 1), BEYOND);
        due(x.sheet(0, 9, -1), BEYOND);
        due(x.sheet(0, 8, -1), STATE);
        due(x.sheet(0, 8, 25), BEYOND);
        due(x.sheet(0, 8, Integer.MIN_VALUE), STATE);
        due(x.sheet(0, 8, Integer.MAX_VALUE), BEYOND);
        for (int far : FAR) {
            due(x.sheet(far, 8, 1), BEYOND);
            due(x.sheet(0, far, 1), BEYOND);
        }
        due(x.put(0, 23, 1), 1);
        due(x.sheet(0, 0, -5), 1);
        due(x.put(0, 23, 1), NONE);
        due(x.sheet(0, 0, 500), 1);
        due(x.sheet(0, 16, 3), 1);
        x.person(0, 1, 0);
        x.doing(0, 9, 0);
        x.put(0, 0, 7);
        due(x.sheet(0, 16, 2), 1);
        due(x.partsAll(0), 1);
        due(x.doingIs(0, 1), 0);

        promise = 30;
        due(x.put(4, 0, 0), BEYOND);
        due(x.put(1, 0, 0), NONE);
        due(x.put(1, 99, 0), NONE);
        due(x.put(0, 2, 0), BEYOND);
        due(x.put(3, 0, 0), BEYOND);
        for (int far : FAR) {
            due(x.put(far, 0, 0), BEYOND);
            due(x.put(0, far, 0), BEYOND);
        }
        int[] bits = {8, 16, 32};
        for (int b : bits) {
            x.sheet(1, b, 1);
            due(x.put(1, 0, 0x7654FF00 | 42), 1);
            due(x.partsAll(1), b == 8 ? 1 : 0);
            due(x.put(1, 0, 0x76540000 | 43), 1);
            due(x.partsAll(1), b <= 16 ? 1 : 0);
            due(x.put(1, 0, 44), 1);
            due(x.partsAll(1), 1);
            due(x.doingIs(0, 1), 44);
        }
    }

    private static void moving() {
        BlinkMoves x = fresh(31);
        x.person(0, 1, 0);
        for (int i = 0; i < 6; i++) x.doing(0, 0, 0);
        x.sheet(0, 8, 6);
        x.sheet(1, 8, 4);
        x.sheet(2, 16, 4);
        for (int i = 0; i < 6; i++) x.put(0, i, 10 + i);
        due(x.move(0, 0, 0, 2, 4), 4);
        due(x.partsAll(0), 6);
        int[] want = {10, 11, 10, 11, 12, 13};
        for (int i = 0; i < 6; i++) due(x.doingIs(i, 1), want[i]);
        due(x.move(0, 2, 0, 1, 4), 4);
        due(x.partsAll(0), 6);
        want = new int[] {10, 10, 11, 12, 13, 13};
        for (int i = 0; i < 6; i++) due(x.doingIs(i, 1), want[i]);
        due(x.move(0, 3, 1, 1, 3), 3);
        due(x.partsAll(1), 4);
        want = new int[] {0, 12, 13, 13};
        for (int i = 0; i < 4; i++) due(x.doingIs(i, 1), want[i]);
        due(x.move(0, 6, 1, 4, 0), 0);
        due(x.move(0, 7, 1, 4, 0), BEYOND);
        due(x.move(0, 6, 1, 5, 0), BEYOND);
        due(x.move(0, 4, 1, 0, 3), BEYOND);
        due(x.move(0, 0, 1, 2, 3), BEYOND);
        due(x.move(0, -1, 1, 0, 1), BEYOND);
        due(x.move(0, 0, 1, -1, 1), BEYOND);
        due(x.move(0, 0, 1, 0, -1), BEYOND);
        due(x.move(0, 0, 2, 0, 1), KIND);
        due(x.move(0, -1, 2, 0, 1), KIND);
        due(x.move(0, 0, 3, 0, 1), NONE);
        due(x.move(3, 0, 0, 0, 1), NONE);
        due(x.move(3, 0, 4, 0, 1), BEYOND);
        due(x.move(4, 0, 0, 0, 1), BEYOND);
        for (int far : FAR) {
            due(x.move(far, 0, 0, 0, 1), BEYOND);
            due(x.move(0, far, 1, 0, 1), BEYOND);
            due(x.move(0, 0, far, 0, 1), BEYOND);
            due(x.move(0, 0, 1, far, 1), BEYOND);
            due(x.move(0, 1, 1, 1, far), BEYOND);
        }
        x.partsAll(1);
        for (int i = 0; i < 4; i++) due(x.doingIs(i, 1), want[i]);
    }

    private static void sheetsOfPeople() {
        BlinkMoves x = fresh(32);
        x.person(0, 2, 0);
        x.person(0, 3, 0);
        x.doing(0, 5, 0);
        x.doing(0, 6, 0);
        due(x.partsAll(0), NONE);
        due(x.partsAll(4), BEYOND);
        for (int far : FAR) due(x.partsAll(far), BEYOND);
        x.sheet(0, 8, 3);
        x.put(0, 0, 99);
        x.put(0, 1, 100);
        due(x.partsAll(0), 1);
        due(x.doingIs(0, 1), 99);
        due(x.doingIs(1, 1), 6);
        x.put(0, 1, 0);
        due(x.partsAll(0), 2);
        due(x.doingIs(1, 1), 0);
        x.put(0, 0, -1);
        due(x.partsAll(0), 0);
        due(x.told(1), 5);
        x.sheet(0, 8, 1);
        x.sets(1, 3);
        due(x.partsAll(0), 1);
        due(x.doingIs(0, 1), 0);
        due(x.doingIs(1, 1), 3);

        promise = 33;
        due(x.judge(1), NONE);
        due(x.judge(4), BEYOND);
        for (int far : FAR) due(x.judge(far), BEYOND);
        x.sheet(0, 8, 7);
        due(x.judge(0), 0);
        int[] sets = {3, 0, 1, 2, 1, 0, 3};
        for (int i = 0; i < 7; i++) {
            x.put(0, i, sets[i]);
            due(x.judge(0), i == 0 || i == 4 ? (i == 0 ? 2 : 6) : i == 1 ? 2 : i == 5 ? 6 : i + 1);
        }
        x.put(0, 3, 3);
        due(x.judge(0), 3);
        x.tick(1);
        due(x.judge(0), 0);
    }

    private static void images() {
        BlinkMoves x = fresh(34);
        due(x.restore(), NONE);
        x.person(13, 3, 1);
        x.doing(0, 7, 0);
        x.tick(40);
        x.seed(-9);
        x.feed(0x7373L, 2);
        x.tell(7);
        x.sheet(0, 8, 1);
        due(x.image(), 1);
        promise = 35;
        x.voice(0, 1, 1);
        x.become(0, 69);
        x.beats(0, 5, 4);
        x.person(0, 1, 0);
        x.doing(1, 3, 1);
        x.sets(0, 1);
        x.tick(50);
        x.seed(8);
        x.text(0);
        tell(x, 0, "0");
        tell(x, 1, "8");
        x.check();
        x.tell(1);
        x.tell(2);
        x.put(0, 0, 5);
        due(x.told(2), 1);
        due(x.restore(), 40);
        due(x.count(0), 1);
        due(x.count(1), 1);
        due(x.count(2), 40);
        due(x.count(3), 7);
        due(x.count(4), 2);
        due(x.count(5), 1);
        due(x.count(6), 3);
        due(x.count(7), -9);
        due(x.personIs(0, 0), 1);
        due(x.personIs(0, 1), 3);
        due(x.personIs(0, 2), 3);
        due(x.personIs(0, 3), 1);
        due(x.untell(0), 0);
        due(x.untell(1), 0);
        due(x.told(2), 1);
        due(x.check(), 0);
        due(x.partsAll(0), 1);
        due(x.doingIs(0, 1), 5);
        due(x.text(0), -11);
        due(tell(x, 1, "4"), 1);
        x.tick(41);
        due(x.image(), 2);
        due(tell(x, 1, "5"), 1);
        due(x.law(1, 0, 0, 0), 5);
        due(x.restore(), 41);
        due(x.law(1, 0, 0, 0), 4);
        x.untell(1);
        x.ticks(3);
        due(x.restore(), 41);
        due(x.law(1, 0, 0, 0), 4);
        due(x.image(), 3);
        due(x.told(2), 1);
    }

    private static void waiting() {
        BlinkMoves x = fresh(36);
        for (int i = 1; i <= 24; i++) due(x.tell(i * 1000000), i);
        due(x.tell(0), FULL);
        due(x.count(5), 24);
        promise = 37;
        due(x.check(), 1);
        due(x.count(5), 0);
        due(x.check(), 0);
        x.person(0, 1, 0);
        x.doing(0, 5, 0);
        x.doing(0, 6, 0);
        x.tell(5);
        due(x.check(), 0);
        x.tell(5);
        x.tell(6);
        due(x.check(), 0);
        x.tell(5);
        x.tell(7);
        due(x.check(), 2);
        x.tell(6);
        x.tell(6);
        due(x.check(), 1);
        x.tell(5);
        x.tell(6);
        x.tell(0);
        due(x.check(), 3);
        x.tell(5);
        x.tell(9);
        x.tell(9);
        due(x.check(), 2);
        due(x.told(1), 0);
    }

    private static void counts() {
        BlinkMoves x = fresh(38);
        x.person(0, 1, 0);
        x.person(0, 1, 0);
        x.doing(0, 99, 0);
        x.doing(0, 42, 0);
        x.doing(1, 0, 0);
        x.tick(7);
        x.feed(0L, 5);
        x.tell(1);
        x.voice(0, 2, 0);
        x.seed(-1);
        int[] want = {2, 3, 7, 141, 5, 1, 3, -1};
        for (int i = 0; i < 8; i++) due(x.count(i), want[i]);
        due(x.count(8), BEYOND);
        for (int far : FAR) due(x.count(far), BEYOND);
        promise = 39;
        due(x.told(1), 5);
        due(x.told(0), BEYOND);
        due(x.told(7), BEYOND);
        for (int far : FAR) due(x.told(far), BEYOND);
        due(x.told(1), 11);
        for (int i = 2; i <= 6; i++) due(x.told(i), 0);
        x.body(9);
        x.tick(99999);
        x.ticks(1);
        x.feed(0L, 8);
        for (int i = 0; i < 7; i++) x.feed(0L, 8);
        x.as(0, 4);
        x.voice(0, 3, 1);
        int[] sorts = {11, 1, 1, x.told(4), 1, 1};
        due(sorts[3] > 0 ? 1 : 0, 1);
        for (int k = 1; k <= 6; k++) due(x.told(k), sorts[k - 1]);
    }
}
