/** Each bound that the Terms name: the last answer on this side and the first on the other. */
public final class BoundsOfTermsTest extends Bounds {
    public static void main(String[] args) {
        errors();
        orderOfErrors();
        quotients();
        tickAndPeople();
        beatsAndPhases();
        doings();
        rests();
        blinksByBeat();
        blinksByNumber();
        tries();
        shut();
        ticksGoBy();
        partsOfATick();
        draws();
        drawsOfPhases();
        tape();
        numbersAndBlanks();
        openOnes();
        comparisons();
        wraps();
        truths();
        faults();
        heldUses();
        namesOfShut();
        namesOfGetsOn();
        beyondTheLastTick();
        onlyThought();
        soonestAndMoments();
        away();
        phases();
        odds();
        fits();
        voicesWrap();
        partedVoices();
        trace();
        sheets();
        finish("BoundsOfTermsTest");
    }

    // ---- ahead of 1

    private static void errors() {
        sentence("LOW - 1 BEYOND, LOW - 2 NONE, LOW - 3 STATE, LOW - 4 FULL, LOW - 5 KIND, LOW - 6 PARTED");
        BlinkMoves x = seers(1, 0);
        int[] made = {x.tick(-1), x.restore(), x.sheet(0, 8, -1), feedTooMuch(x), x.as(0, 1), x.voice(0, 3, 1)};
        for (int k = 1; k <= 6; k++) {
            due(made[k - 1], -1000000000 - k);
            due(x.told(k), 1);
        }
    }

    private static int feedTooMuch(BlinkMoves x) {
        for (int i = 0; i < 7; i++) {
            x.feed(0L, 8);
        }
        return x.feed(0L, 5);
    }

    private static void orderOfErrors() {
        sentence("Each act tells its ERRORS in the order in which they are asked");
        refused(Scenes::full, BEYOND, x -> x.person(70, 1, 0));
        refused(Scenes::full, BEYOND, x -> x.doing(0, 1, 1));
        refused(Scenes::full, BEYOND, x -> x.as(6, 1));
        refused(Scenes.tape(60), BEYOND, x -> x.feed(0L, 9));
        refused(Scenes::late, BEYOND, x -> x.ticks(201));
        refused(Scenes::late, BEYOND, x -> x.loose(31));
        refused(Scenes::full, BEYOND, x -> x.away(2, 0, 2));
        refused(Scenes::full, BEYOND, x -> x.phaseFor(0, 2, 2));
        refused(Scenes::full, BEYOND, x -> x.fits(3, 6, 0));
        refused(Scenes::full, BEYOND, x -> x.fits(3, 0, 2));
        refused(Scenes::full, BEYOND, x -> x.sheet(4, 8, -1));
        refused(Scenes::full, BEYOND, x -> x.sheet(0, 9, -1));
        refused(Scenes::full, NONE, x -> x.put(3, 24, 0));
        refused(Scenes::full, BEYOND, x -> x.move(3, 0, 4, 0, 1));
        refused(Scenes::full, NONE, x -> x.move(3, -1, 0, 0, 1));
        refused(Scenes::full, NONE, x -> x.move(0, 0, 3, -1, 1));
        refused(Scenes::full, KIND, x -> x.move(0, 0, 1, 0, -1));
    }

    private static void quotients() {
        sentence("Quotients are cut toward 0");
        due(gives(1, "(0-7)/2+9", 0, 0, 0), 6);
        due(gives(1, "7/(0-2)+9", 0, 0, 0), 6);
        due(gives(1, "(0-7)/(0-2)", 0, 0, 0), 3);
        due(gives(1, "(0-7)%4+9", 0, 0, 0), 6);
        due(gives(1, "7%(0-4)", 0, 0, 0), 3);
        BlinkMoves x = seers(1, 0, 1, 0);
        x.become(0, 35);
        due(x.voice(0, 2, -3), -7);
        due(x.voice(0, 2, 3), -3);
        due(x.voice(0, 3, -9), -1);
        due(x.voice(0, 3, -4), 0);
        due(x.voice(1, 3, -9), 9);
    }

    // ---- 1

    private static void tickAndPeople() {
        sentence("TICK (0 .. 99999; 0 at first)");
        BlinkMoves x = new BlinkMoves();
        due(x.tick(99999), 0);
        due(x.tick(0), 99999);
        due(x.count(2), 0);
        refused(Scenes::full, BEYOND, y -> y.tick(-1));
        refused(Scenes::full, BEYOND, y -> y.tick(100000));

        sentence("PEOPLE 0, 1, .. (at most 6)");
        for (int i = 0; i < 6; i++) {
            due(x.person(0, 1, 0), i);
        }
        due(x.person(0, 1, 0), FULL);
        due(x.count(0), 6);
        refused(Scenes::full, FULL, y -> y.person(0, 1, 0));

        sentence("KINDS 0 SEER .. 6 CHILD, each with a number m (0 .. 9)");
        for (int km = 0; km <= 69; km++) {
            BlinkMoves y = new BlinkMoves();
            due(y.person(km, 1, 0), 0);
            due(y.personIs(0, 0), km / 10);
            due(y.personIs(0, 1), km % 10);
        }
        refused(Scenes::roomy, BEYOND, y -> y.person(-1, 1, 0));
        refused(Scenes::roomy, BEYOND, y -> y.person(70, 1, 0));
    }

    private static void beatsAndPhases() {
        sentence("a BEAT (1 .. 12)");
        BlinkMoves x = seers(1, 0, 12, 0);
        due(x.personIs(0, 2), 1);
        due(x.personIs(1, 2), 12);
        refused(Scenes::roomy, BEYOND, y -> y.person(0, 0, 0));
        refused(Scenes::roomy, BEYOND, y -> y.person(0, 13, 0));

        sentence("a PHASE (0 .. BEAT less 1)");
        for (int beat = 1; beat <= 12; beat++) {
            int of = beat;
            due(x.beats(0, beat, beat - 1), Math.max(1, beat - 1));
            due(x.personIs(0, 3), beat - 1);
            due(x.beats(0, beat, 0), beat);
            due(x.personIs(0, 3), 0);
            refused(Scenes::roomy, BEYOND, y -> y.person(0, of, of));
            refused(Scenes::roomy, BEYOND, y -> y.person(0, of, -1));
            refused(Scenes::roomy, BEYOND, y -> y.beats(0, of, of));
            refused(Scenes::roomy, BEYOND, y -> y.beats(0, of, -1));
        }
    }

    private static void doings() {
        sentence("DOINGS 0, 1, .. (at most 6)");
        BlinkMoves x = seers(1, 0, 1, 0);
        for (int i = 0; i < 6; i++) {
            due(x.doing(0, 1, 0), i);
        }
        due(x.doing(0, 1, 0), FULL);
        due(x.count(1), 6);
        refused(Scenes::full, FULL, y -> y.doing(0, 1, 0));

        sentence("PARTS that are left (0 .. 99)");
        due(x.sets(0, 0), 1);
        due(x.sets(0, 99), 0);
        due(x.doingIs(0, 1), 99);
        refused(Scenes::roomy, BEYOND, y -> y.doing(0, -1, 0));
        refused(Scenes::roomy, BEYOND, y -> y.doing(0, 100, 0));
        refused(Scenes::roomy, BEYOND, y -> y.sets(0, -1));
        refused(Scenes::roomy, BEYOND, y -> y.sets(0, 100));

        sentence("WATCHERS (a set of PEOPLE, WHO not among them)");
        for (int who = 0; who < 3; who++) {
            int one = who;
            due(Scenes.roomy().doing(who, 1, 7 - (1 << who)), 2);
            refused(Scenes::roomy, BEYOND, y -> y.doing(one, 1, 1 << one));
            refused(Scenes::roomy, BEYOND, y -> y.doing(one, 1, 7));
            refused(Scenes::roomy, BEYOND, y -> y.doing(one, 1, 8));
        }
    }

    private static void rests() {
        sentence("REST (at a TICK t): that of t and PHASE, together, by BEAT");
        for (int beat = 1; beat <= 12; beat++) {
            for (int phase = 0; phase < beat; phase++) {
                BlinkMoves x = seers(beat, phase);
                int first = beat - phase;
                due(shutAt(x, first), 1);
                due(shutAt(x, first - 1), beat == 1 ? 1 : 0);
                due(shutAt(x, first + 1), beat == 1 ? 1 : 0);
                due(shutAt(x, 0), phase == 0 ? 1 : 0);
            }
        }
        BlinkMoves x = seers(12, 9, 12, 8, 12, 10);   // 99999 leaves 3 by 12
        x.tick(99999);
        due(x.shut(), 1);
    }

    private static void blinksByBeat() {
        sentence("SEER, BANKER: if REST is 0");
        for (int km : new int[] {0, 9, 10, 19}) {
            dueShut(km, 12, 11, ".x...........x.");
        }
        sentence("DEAF: as SEER, and if the rest of t by 3 is not that of m by 3");
        dueShut(20, 1, 0, ".xx.xx.xx");
        dueShut(21, 1, 0, "x.xx.xx.x");
        dueShut(22, 1, 0, "xx.xx.xx.");
        dueShut(23, 1, 0, ".xx.xx.xx");
        dueShut(29, 2, 0, "..x.x...x.x.");
        sentence("GOVERNOR: if REST is below 2");
        dueShut(39, 1, 0, "xxxx");
        dueShut(39, 2, 1, "xxxx");
        dueShut(39, 3, 0, "xx.xx.xx.");
        dueShut(39, 12, 11, ".xx..........xx.");
    }

    private static void blinksByNumber() {
        sentence("LOVER: as BANKER; also if the rest of t by 12 is m");
        dueShut(40, 7, 6, "xx......x...x..x......x.x");
        dueShut(49, 11, 0, "x........x.x.........xx...");
        dueShut(41, 12, 10, ".xx..........xx..........xx");
        sentence("GREY: as DEAF, and if m is above 6");
        dueShut(50, 1, 0, ".........");
        dueShut(56, 1, 0, ".........");
        dueShut(57, 1, 0, "x.xx.xx.x");
        dueShut(59, 2, 0, "..x.x...x.x.");
        sentence("CHILD: as SEER; also if t and m leave the same by 7");
        dueShut(60, 12, 9, "x..x...x......xx");
        dueShut(66, 12, 9, "...x..x......x.x....x");
        dueShut(67, 12, 9, "x..x...x......xx");
        dueShut(69, 12, 9, "..xx.....x.....xx");
    }

    private static void tries() {
        sentence("TRIES: SEER, DEAF: 1");
        dueTries(5, 1);
        dueTries(29, 1);
        sentence("BANKER: as SEER, and 1, and m by 5 (cut)");
        dueTries(10, 2);
        dueTries(14, 2);
        dueTries(15, 3);
        dueTries(19, 3);
        sentence("LOVER: twice BANKER's");
        dueTries(44, 4);
        dueTries(45, 6);
        sentence("GREY: as DEAF, and 3. CHILD: 0");
        dueTries(50, 4);
        dueTries(59, 4);
        dueTries(60, 0);
        dueTries(69, 0);
        sentence("GOVERNOR: as SEER, and how many DOINGS there are");
        BlinkMoves x = new BlinkMoves();
        x.person(39, 1, 0);
        for (int i = 1; i <= 6; i++) {
            x.doing(0, 0, 0);
            due(x.doingIs(0, 3), 1 + i);
        }
        x.doing(0, 0, 0);
        due(x.doingIs(0, 3), 7);
    }

    private static void dueTries(int km, int want) {
        BlinkMoves x = new BlinkMoves();
        x.person(km, 1, 0);
        x.doing(0, 0, 0);
        due(x.doingIs(0, 3), want);
        Scenes.text(x, 1, "p+1");
        due(x.doingIs(0, 3), want + 1);
    }

    private static void shut() {
        sentence("One is SHUT at a TICK, if the TEXT of that USE gives 1");
        String[] texts = {"0", "1", "2", "0-1", "r", "1-s"};
        int[] want = {0, 1, 1, 0, 0, 0};
        for (int i = 0; i < texts.length; i++) {
            BlinkMoves x = seers(3, 0);
            due(Scenes.text(x, 0, texts[i]), 1);
            due(x.shut(), want[i]);
            due(x.personIs(0, 4), want[i]);
            due(x.moments(1, 1), want[i]);
        }
    }

    private static void ticksGoBy() {
        sentence("A TICK goes by: DOINGS that have PARTS left");
        BlinkMoves x = seers(1, 0, 2, 0, 3, 0);
        x.doing(0, 0, 0);
        x.doing(0, 1, 0);
        due(x.ticks(1), 1);
        due(x.doingIs(0, 1), 0);
        due(x.doingIs(1, 1), 0);
        due(x.ticks(1), 0);

        sentence("and whose WATCHERS are all SHUT");
        x.doing(0, 3, 6);
        x.tick(2);
        x.ticks(3);            // at 2 one is SHUT, at 3 the other, at 4 one
        due(x.doingIs(2, 1), 3);
        x.tick(6);
        x.ticks(1);
        due(x.doingIs(2, 1), 2);
        x.tick(1);
        x.ticks(1);            // none is
        due(x.doingIs(2, 1), 2);
    }

    private static void partsOfATick() {
        sentence("PARTS are less by how it GETS ON (0 at least)");
        BlinkMoves x = seers(1, 0);
        x.doing(0, 10, 0);
        Scenes.text(x, 1, "9");
        due(x.ticks(1), 0);
        due(x.doingIs(0, 1), 1);
        due(x.ticks(1), 1);
        due(x.doingIs(0, 1), 0);
        x.sets(0, 9);
        due(x.ticks(1), 1);
        due(x.doingIs(0, 1), 0);
        x.sets(0, 8);
        due(x.then(0, 1), 0);
        Scenes.text(x, 1, "0");
        due(x.ticks(1), 0);
        due(x.doingIs(0, 1), 8);

        sentence("TICK is 1 more");
        due(x.count(2), 4);
        x.tick(99998);
        due(x.ticks(1), 0);
        due(x.count(2), 99999);
    }

    private static void draws() {
        sentence("BY DRAWS a TICK: if there are PEOPLE, a draw");
        BlinkMoves x = new BlinkMoves();
        due(x.loose(1), 0);
        due(x.count(7), 1);
        due(x.count(2), 1);
        x.person(0, 1, 0);
        due(x.loose(1), 0);
        due(x.count(7), 1103527590);
        due(x.count(2), 2);

        sentence("z * 1103515245 + 12345 (an int)");
        x.seed(2);
        x.loose(1);
        due(x.count(7), -2087924461);
        x.seed(-1);
        x.loose(1);
        due(x.count(7), -1103502900);
        x.seed(MIN + 1);
        x.loose(1);
        due(x.count(7), -1043956058);
    }

    /** z >>> 8 of a z below 0 is above 0: (z + 4294967296) / 256. */
    private static void drawsOfPhases() {
        sentence("if 4 divides it, two more");
        for (int seed = -300; seed <= 300; seed++) {
            BlinkMoves x = seers(12, 5, 11, 5, 7, 5);
            x.seed(seed);
            x.loose(1);
            long first = next(seed), second = next((int) first), third = next((int) second);
            boolean divides = ((first & 0xFFFFFFFFL) / 256) % 4 == 0;
            due(x.count(7), (int) (divides ? third : first));
            int who = (int) ((second & 0xFFFFFFFFL) / 256 % 3);
            int[] beat = {12, 11, 7};
            for (int p = 0; p < 3; p++) {
                boolean his = divides && p == who;
                due(x.personIs(p, 3), his ? (int) ((third & 0xFFFFFFFFL) / 256 % beat[p]) : 5);
            }
        }
        sentence("PHASE becomes the second one's rest by his BEAT; then a TICK");
        BlinkMoves x = seers(1, 0);
        x.doing(0, 60, 0);
        due(x.loose(30), 0);
        due(x.loose(29), 0);
        due(x.loose(1), 1);
        due(x.personIs(0, 3), 0);
    }

    private static long next(int z) {
        return (int) ((long) z * 1103515245L + 12345L);
    }

    // ---- 2

    private static void tape() {
        sentence("THE TAPE (bytes, at most 60)");
        String most = "037=10+" + "1+".repeat(26) + "1";
        due(most.length(), 60);
        due(gives(0, most, 0, 0, 0), 1);
        due(gives(0, most.substring(0, 59) + "2", 0, 0, 0), 0);
        due(Scenes.tape(60).get().count(4), 60);
        refused(Scenes.tape(60), FULL, x -> x.feed('1', 1));
        due(Scenes.tape(59).get().feed('1', 1), 60);
        refused(Scenes.tape(59), FULL, x -> x.feed('1', 2));
    }

    private static void numbersAndBlanks() {
        sentence("a NUMBER of 1 to 4 digits");
        due(gives(1, "p=0", 0, 0, 0), 1);
        due(gives(1, "p=9999", 9999, 0, 0), 1);
        due(gives(1, "p=9999", 9998, 0, 0), 0);
        due(gives(1, "0000+0009", 0, 0, 0), 9);
        due(fault(0, "10000"), 4);
        due(fault(0, "00000"), 4);
        due(fault(0, "r=10000"), 6);
        due(fault(0, "(1234)5"), 6);

        sentence("a NAME (of that USE)");
        for (char c = 0; c < 256; c++) {
            boolean digit = c >= '0' && c <= '9';
            boolean opens = c == '!' || c == '(';
            due(fault(0, "" + c), opens ? 1 : digit || "rst".indexOf(c) >= 0 ? -1 : 0);
            due(fault(1, "" + c), opens ? 1 : digit || "pol".indexOf(c) >= 0 ? -1 : 0);
        }

        sentence("No blanks");
        due(fault(0, " r"), 0);
        due(fault(0, "r "), 1);
        due(fault(0, "r= 1"), 2);
        due(fault(0, "1 2"), 1);
        due(fault(0, "( r)"), 1);
    }

    private static void openOnes() {
        sentence("At most 5 of ! and ( are open at once");
        for (int mix = 0; mix < 32; mix++) {
            StringBuilder opens = new StringBuilder();
            StringBuilder closes = new StringBuilder();
            for (int i = 0; i < 5; i++) {
                boolean not = (mix >> i & 1) == 1;
                opens.append(not ? '!' : '(');
                closes.append(not ? "" : ")");
            }
            String open = opens.toString();
            due(fault(0, open + "r" + closes), -1);
            due(fault(0, open + "!r" + closes), 5);
            due(fault(0, open + "(r)" + closes), 5);
            due(fault(0, open + "r" + closes + ")"), 6 + closes.length());
        }
        due(fault(0, "!!!!!r+!!!!!r"), -1);
        due(fault(0, "(((((r)))))*(((((r)))))"), -1);
        due(fault(0, "((((!r+!s=!t))))"), -1);
        due(fault(0, "((((!r+!s=!!t))))"), 11);
        due(fault(0, "!!!!(!r)"), 5);
        due(fault(0, "(!!!!r|!!!!s)&!t"), -1);
    }

    private static void comparisons() {
        sentence("B: S, or S < S, S = S, S > S");
        for (String a : new String[] {"<", "=", ">"}) {
            due(fault(0, "r" + a + "s"), -1);
            for (String b : new String[] {"<", "=", ">"}) {
                due(fault(0, "r" + a + "s" + b + "t"), 3);
                due(fault(0, "r" + a + b + "t"), 2);
                due(fault(0, "(r" + a + "s)" + b + "t"), -1);
                due(fault(0, "r" + a + "s|r" + b + "t"), -1);
                due(fault(0, "r" + a + "s&r" + b + "t"), -1);
                due(fault(0, "r" + a + "(s" + b + "t)"), -1);
            }
        }
        sentence("T: A { | A }. A: B { & B }. S: P { + P, - P }. P: Q { * Q, / Q, % Q }");
        due(gives(1, "1|0&0", 0, 0, 0), 1);
        due(gives(1, "0&0|1", 0, 0, 0), 1);
        due(gives(1, "2&1=1", 0, 0, 0), 1);
        due(gives(1, "2=1+1", 0, 0, 0), 1);
        due(gives(1, "1+2*3", 0, 0, 0), 7);
        due(gives(1, "p+o*l", 1, 2, 3), 7);
        due(gives(1, "l*o+p", 1, 2, 3), 7);
        due(gives(1, "9-4-3", 0, 0, 0), 2);
        due(gives(1, "9-(4-3)", 0, 0, 0), 8);
        due(gives(1, "8/4/2", 0, 0, 0), 1);
        due(gives(1, "7%4*2", 0, 0, 0), 6);
        due(gives(1, "!1+1", 0, 0, 0), 1);
    }

    private static void wraps() {
        sentence("Ints that wrap");
        due(gives(1, "p+1<p", MAX, 0, 0), 1);
        due(gives(1, "p+1<p", MAX - 1, 0, 0), 0);
        due(gives(1, "p-1>p", MIN, 0, 0), 1);
        due(gives(1, "p-1>p", MIN + 1, 0, 0), 0);
        due(gives(1, "p*2=o", 1 << 30, MIN, 0), 1);
        due(gives(1, "p*o=l", 65536, 65536, 0), 1);
        due(gives(1, "p*o=l", 46341, 46341, -2147479015), 1);
        due(gives(1, "p*o=l", 46340, 46340, 2147395600), 1);
        due(gives(1, "p/o=p", MIN, -1, 0), 1);
        due(gives(1, "p%o=0", MIN, -1, 0), 1);
        due(gives(1, "0-p=p", MIN, 0, 0), 1);
        due(gives(0, "r<s", MIN, MAX, 0), 1);
        due(gives(0, "r>s", MIN, MAX, 0), 0);

        sentence("/ cut, % the rest that it leaves, both by 0 are 0");
        due(gives(1, "p/o+4", 9, 0, 0), 4);
        due(gives(1, "p%o+4", 9, 0, 0), 4);
        due(gives(1, "p/o+4", MIN, 0, 0), 4);
        due(gives(1, "p/o", 9, 1, 0), 9);
        due(gives(1, "p%o", 9, 1, 0), 0);
        due(gives(1, "p/o", 4, 5, 0), 0);
        due(gives(1, "p%o", 4, 5, 0), 4);
        due(gives(1, "p%o", 5, 5, 0), 0);
    }

    private static void truths() {
        sentence("| & < = > ! are 1 or 0, what is not 0 being true");
        int[] some = {MIN, -1, 0, 1, 2, MAX};
        for (int a : some) {
            due(gives(1, "5+!p", a, 0, 0), a == 0 ? 6 : 5);
            due(gives(1, "5+!!p", a, 0, 0), a == 0 ? 5 : 6);
            for (int b : some) {
                due(gives(1, "5+(p|o)", a, b, 0), a == 0 && b == 0 ? 5 : 6);
                due(gives(1, "5+(p&o)", a, b, 0), a == 0 || b == 0 ? 5 : 6);
                due(gives(1, "5+(p<o)", a, b, 0), a < b ? 6 : 5);
                due(gives(1, "5+(p=o)", a, b, 0), a == b ? 6 : 5);
                due(gives(1, "5+(p>o)", a, b, 0), a > b ? 6 : 5);
            }
        }
    }

    private static void faults() {
        sentence("FAULT: the place of the first byte with which no TEXT goes on");
        String whole = "(1|r)*!s<t";
        String isText = "....." + "x..x.x";   // by how many of its bytes it is a TEXT by itself
        for (int n = 0; n <= whole.length(); n++) {
            String start = whole.substring(0, n);
            due(fault(0, start + "?"), n);
            due(fault(0, start + "\u00ff1"), n);
            due(fault(0, start + "\u0000"), n);
            due(fault(0, start), isText.charAt(n) == 'x' ? -1 : n);
        }
        due(fault(0, "r)"), 1);
        due(fault(0, "()"), 1);
        due(fault(0, "rr"), 1);
        due(fault(0, "1r"), 1);
        due(fault(0, "r(s)"), 1);
        due(fault(0, "r!s"), 1);
        due(fault(0, "-1"), 0);
        due(fault(0, "+"), 0);
        due(fault(0, "r+-s"), 2);

        sentence("how many there are, if it ends too early");
        due(fault(0, ""), 0);
        due(fault(0, "("), 1);
        due(fault(0, "r+"), 2);
        due(fault(0, "((((("), 5);
        due(fault(0, "!!!!!"), 5);
        due(fault(0, "r+".repeat(29) + "("), 59);
        due(fault(0, "r+".repeat(30)), 60);
    }

    private static void heldUses() {
        sentence("SHUT: held within 0 .. 1; without a TEXT s (held likewise)");
        int[] some = {MIN, -1, 0, 1, 2, 9, 10, MAX};
        BlinkMoves none = new BlinkMoves();
        for (int v : some) {
            int want = v <= 0 ? 0 : 1;
            due(gives(0, "r", v, 0, 0), want);
            due(gives(0, "s", 0, v, 0), want);
            due(gives(0, "t", 0, 0, v), want);
            due(none.law(0, 5, v, 5), want);
        }
        sentence("GETS ON: held within 0 .. 9; without a TEXT p (held likewise)");
        for (int v : some) {
            int want = v <= 0 ? 0 : v >= 9 ? 9 : v;
            due(gives(1, "p", v, 0, 0), want);
            due(gives(1, "o", 0, v, 0), want);
            due(gives(1, "l", 0, 0, v), want);
            due(none.law(1, v, 5, 5), want);
        }
    }

    private static void namesOfShut() {
        sentence("r REST, s 1, if the KIND BLINKS, else 0");
        BlinkMoves x = seers(12, 0);
        Scenes.text(x, 0, "r=11");
        due(shutAt(x, 10), 0);
        due(shutAt(x, 11), 1);
        due(shutAt(x, 12), 0);
        Scenes.text(x, 0, "s=1");
        due(shutAt(x, 11), 0);
        due(shutAt(x, 12), 1);
        Scenes.text(x, 0, "s=0");
        due(shutAt(x, 11), 1);
        due(shutAt(x, 12), 0);

        sentence("t the rest of TICK by 24");
        Scenes.text(x, 0, "t=23");
        due(shutAt(x, 22), 0);
        due(shutAt(x, 23), 1);
        due(shutAt(x, 24), 0);
        due(shutAt(x, 47), 1);
        Scenes.text(x, 0, "t=0");
        due(shutAt(x, 0), 1);
        due(shutAt(x, 23), 0);
        due(shutAt(x, 24), 1);
        due(shutAt(x, 99984), 1);
        Scenes.text(x, 0, "t=16");
        x.tick(99999);
        due(x.moment(1), 1);
    }

    private static void namesOfGetsOn() {
        sentence("p what WHO TRIES, o how many others of PEOPLE are SHUT then, l PARTS that are left");
        BlinkMoves x = new BlinkMoves();
        x.person(19, 1, 0);
        x.doing(0, 7, 0);
        Scenes.text(x, 1, "o");
        due(x.doingIs(0, 3), 0);
        for (int others = 1; others <= 5; others++) {
            x.person(0, 2, 0);
            due(x.doingIs(0, 3), others);
        }
        x.beats(0, 2, 1);
        due(x.doingIs(0, 3), 5);
        x.tick(1);
        due(x.doingIs(0, 3), 0);
        Scenes.text(x, 1, "p");
        due(x.doingIs(0, 3), 3);
        Scenes.text(x, 1, "l");
        due(x.doingIs(0, 3), 7);
        x.sets(0, 0);
        due(x.doingIs(0, 3), 0);
        x.sets(0, 99);
        due(x.doingIs(0, 3), 9);
        Scenes.text(x, 1, "l=99");
        due(x.doingIs(0, 3), 1);
    }

    // ---- 3

    private static void beyondTheLastTick() {
        sentence("(All this is only thought; TICK beyond 99999, too.)");
        BlinkMoves x = seers(7, 0, 1, 0);      // 99999 leaves 4 by 7: the first is SHUT at 100002
        x.doing(1, 1, 1);
        x.tick(99999);
        due(x.moment(1), 3);
        due(x.moments(1, 3), 0);
        due(x.moments(1, 4), 1);
        due(x.odds(1, 4, 1), 4);
        due(x.then(0, 3), 1);
        due(x.then(0, 4), 0);
        due(x.soonest(0), 4);
        due(x.away(0, 3, 0), 1);
        due(x.away(0, 4, 0), 0);
        due(x.phaseFor(0, 0, 0), 3);
        due(x.phaseFor(0, 0, 1), 1);
        x.sheet(0, 8, 4);
        x.put(0, 3, 1);
        due(x.fits(0, 0, 1), 402);             // 100002 and 2 leave 0 by 4, as none of the 3 ahead of it
        for (int i = 0; i < 4; i++) {
            x.put(0, i, i < 3 ? 2 : 3);
        }
        due(x.judge(0), 4);
        due(x.count(2), 99999);
        due(x.ticks(1), STATE);
    }

    private static void onlyThought() {
        sentence("(All this is only thought)");
        onlyAsks(Scenes::full, x -> x.then(0, 200));
        onlyAsks(Scenes::full, x -> x.soonest(0));
        onlyAsks(Scenes::full, x -> x.moment(1));
        onlyAsks(Scenes::full, x -> x.moments(63, 99));
        onlyAsks(Scenes::full, x -> x.away(0, 99, 1));
        onlyAsks(Scenes::full, x -> x.phaseFor(5, 0, 0));
        onlyAsks(Scenes::full, x -> x.phaseFor(0, 0, 1));
        onlyAsks(Scenes::full, x -> x.odds(63, 99, 1));
        onlyAsks(Scenes::full, x -> x.fits(2, 5, 0));
        onlyAsks(Scenes::full, x -> x.doingIs(5, 3));
        onlyAsks(Scenes::full, x -> x.shut());
        onlyAsks(Scenes::full, x -> x.law(1, MIN, MAX, 0));
        onlyAsks(Scenes::full, x -> x.judge(2));
    }

    private static void soonestAndMoments() {
        sentence("SOONEST: behind how many TICKS (0 .. 200) a DOING first has no PARTS left");
        due(Scenes.rareMeeting(923).soonest(0), 1);
        due(Scenes.rareMeeting(723 + 1).soonest(0), 200);
        refused(() -> Scenes.rareMeeting(723), NONE, x -> x.soonest(0));
        BlinkMoves done = Scenes.rareMeeting(0);
        done.sets(0, 0);
        due(done.soonest(0), 0);

        sentence("THEN: PARTS of a DOING, n TICKS on");
        due(Scenes.rareMeeting(923).then(0, 0), 1);
        due(Scenes.rareMeeting(923).then(0, 1), 0);
        due(Scenes.rareMeeting(724).then(0, 199), 1);
        due(Scenes.rareMeeting(724).then(0, 200), 0);
        due(Scenes.rareMeeting(723).then(0, 200), 1);

        sentence("A MOMENT of a set of PEOPLE is a TICK at which all of it are SHUT");
        due(Scenes.rareMeeting(923).moment(7), 0);
        due(Scenes.rareMeeting(523).moment(7), 400);
        refused(() -> Scenes.rareMeeting(522), NONE, x -> x.moment(7));
        due(Scenes.rareMeeting(522).moment(3), 131 + 3 * 132 - 522);
        due(Scenes.rareMeeting(825).moments(7, 98), 0);
        due(Scenes.rareMeeting(825).moments(7, 99), 1);
        due(Scenes.rareMeeting(824).moments(7, 99), 0);
        due(Scenes.rareMeeting(0).moment(0), 0);
    }

    private static void away() {
        sentence("AWAY: the fewest of its WATCHERS who are to be none so that it has no PARTS left behind n TICKS or fewer");
        due(Scenes.rareMeeting(825).away(0, 99, 0), 0);
        due(Scenes.rareMeeting(825).away(0, 98, 0), 1);
        due(Scenes.rareMeeting(824).away(0, 99, 0), 1);
        sentence("of several sets the least (bits)");
        // from 824 on, 11 and 7 meet at 846, 12 and 7 at 839, 11 and 12 only at 923
        due(Scenes.rareMeeting(824).away(0, 99, 1), 1);
        due(Scenes.rareMeeting(824).away(0, 22, 1), 1);
        due(Scenes.rareMeeting(824).away(0, 16, 1), 1);
        due(Scenes.rareMeeting(840).away(0, 7, 1), 2);
        // at 790 7 alone is SHUT, at 791 11 and 12 are
        due(Scenes.rareMeeting(790).away(0, 2, 0), 1);
        due(Scenes.rareMeeting(790).away(0, 2, 1), 4);
        due(Scenes.rareMeeting(790).away(0, 1, 0), 2);
        due(Scenes.rareMeeting(790).away(0, 1, 1), 3);
        // from 829 on, 7 alone is at 832, 11 alone at 835
        due(Scenes.rareMeeting(829).away(0, 11, 1), 1);
        due(Scenes.rareMeeting(829).away(0, 10, 0), 2);
        due(Scenes.rareMeeting(829).away(0, 10, 1), 3);
        due(Scenes.rareMeeting(829).away(0, 4, 1), 3);
        due(Scenes.rareMeeting(829).away(0, 3, 1), 7);
        due(Scenes.rareMeeting(841).away(0, 1, 0), 3);
        due(Scenes.rareMeeting(841).away(0, 1, 1), 7);
        refused(() -> Scenes.rareMeeting(841), NONE, x -> x.away(0, 0, 0));
        BlinkMoves done = Scenes.rareMeeting(841);
        done.sets(0, 0);
        due(done.away(0, 0, 0), 0);
        due(done.away(0, 0, 1), 0);
    }

    private static void phases() {
        sentence("PHASE FOR one, a DOING: the PHASE (0 .. BEAT less 1) by which the DOING has no PARTS left soonest");
        BlinkMoves x = seers(1, 0, 12, 0);
        x.doing(0, 1, 2);
        x.tick(1);
        due(x.phaseFor(1, 0, 0), 11);
        due(x.phaseFor(1, 0, 1), 1);
        x.tick(0);
        due(x.phaseFor(1, 0, 0), 0);
        due(x.phaseFor(1, 0, 1), 1);

        sentence("within 99 TICKS; of several the least; behind how many TICKS");
        due(Scenes.rareMeeting(825).phaseFor(3, 0, 0), 0);
        due(Scenes.rareMeeting(825).phaseFor(3, 0, 1), 99);
        refused(() -> Scenes.rareMeeting(824), NONE, y -> y.phaseFor(3, 0, 0));
        refused(() -> Scenes.rareMeeting(824), NONE, y -> y.phaseFor(3, 0, 1));
        x.sets(0, 0);
        due(x.phaseFor(1, 0, 0), 0);
        due(x.phaseFor(1, 0, 1), 0);
        due(Scenes.rareMeeting(830).phaseFor(0, 0, 0), 8);      // 12 and 7 meet at 839
        due(Scenes.rareMeeting(830).phaseFor(0, 0, 1), 10);
        due(Scenes.rareMeeting(839).phaseFor(0, 0, 1), 1);
        due(Scenes.rareMeeting(840).phaseFor(1, 0, 1), 7);      // 11 and 7 at 846
        x.beats(0, 12, 7);     // whose PHASE does not matter
        x.sets(0, 1);
        due(x.phaseFor(0, 0, 0), 0);
    }

    private static void odds() {
        sentence("a fraction in lowest terms (0 is 0 by 1)");
        BlinkMoves x = seers(3, 0, 1, 0);
        dueOdds(x, 1, 1, 1, 1);
        dueOdds(x, 1, 2, 1, 2);
        dueOdds(x, 1, 3, 1, 3);
        dueOdds(x, 1, 4, 1, 2);
        dueOdds(x, 1, 98, 33, 98);
        dueOdds(x, 1, 99, 1, 3);
        dueOdds(x, 2, 1, 1, 1);
        dueOdds(x, 2, 99, 1, 1);
        x.tick(1);
        dueOdds(x, 1, 1, 0, 1);
        dueOdds(x, 1, 2, 0, 1);
        dueOdds(x, 1, 3, 1, 3);
        dueOdds(Scenes.rareMeeting(825), 7, 98, 0, 1);
        dueOdds(Scenes.rareMeeting(825), 7, 99, 1, 99);
    }

    private static void dueOdds(BlinkMoves x, int set, int n, int above, int below) {
        due(x.odds(set, n, 0), above);
        due(x.odds(set, n, 1), below);
    }

    private static void fits() {
        sentence("FITS: by how many BEATS (1 .. 12) with PHASES (0 .. BEAT less 1) that is so; the first");
        BlinkMoves x = seers(1, 0);
        x.sheet(0, 8, 0);
        due(x.fits(0, 0, 0), 78);
        due(x.fits(0, 0, 1), 100);
        x.sheet(0, 8, 24);
        x.put(0, 1, 1);
        x.put(0, 13, 1);
        due(x.fits(0, 0, 0), 1);
        due(x.fits(0, 0, 1), 1211);
        for (int i = 0; i < 24; i++) {
            x.put(0, i, 1);
        }
        due(x.fits(0, 0, 0), 1);
        due(x.fits(0, 0, 1), 100);
        x.put(0, 23, 0);
        due(x.fits(0, 0, 0), 0);
        due(x.fits(0, 0, 1), NONE);

        sentence("a SHEET tells whether one is SHUT (1, 0)");
        x.put(0, 23, 2);
        due(x.fits(0, 0, 0), 0);
        x.put(0, 23, -1);
        due(x.fits(0, 0, 0), 0);
        x.put(0, 23, 257);     // its lowest bits are 1
        due(x.fits(0, 0, 0), 1);
    }

    // ---- 4

    private static void voicesWrap() {
        sentence("a number x (ints that wrap); k is the number, m as told");
        due(says(0, 1, 0, MAX), MIN);
        due(says(0, 0, 0, MAX), MAX);
        due(says(0, 0, 1, 1 << 30), MIN);
        due(says(9, 0, 2, 1 << 30), MAX - 8);
        due(says(10, 0, 0, MIN), MAX - 3);
        due(says(20, 0, 1, 1 << 30), MIN);
        due(says(40, 0, 0, 715827887), MIN + 1);
        due(says(50, 0, 1, MAX), 0);
        due(says(50, 0, 1, MAX - 1), 2);
        due(says(69, 0, 1, MAX), 27);
        due(says(30, 0, 2, MIN), MIN);
        due(says(0, 1, 3, MIN), MIN);
        due(says(0, 1, 3, MAX), -MAX);
        due(says(16, 5, 3, MAX), MAX + 4);
        due(says(41, 1, 2, 0), -20);
    }

    /** What one of a kind and m (km) with the number k says to x. */
    private static int says(int km, int k, int voice, int x) {
        BlinkMoves y = new BlinkMoves();
        for (int i = 0; i < k; i++) {
            y.person(0, 1, 0);
        }
        y.person(km, 1, 0);
        return y.voice(k, voice, x);
    }

    private static void partedVoices() {
        sentence("parts: x by (m - k), cut (PARTED if that is 0; that is all that voice() answers then)");
        for (int k = 0; k < 6; k++) {
            for (int m = 0; m <= 9; m++) {
                due(says(m, k, 3, 60), m == k ? PARTED : 60 / (m - k));
                due(says(50 + m, k, 3, 0), m == k ? PARTED : 0);
                due(says(60 + m, k, 3, 0), m == k ? PARTED : 0);
            }
            due(says(10 + k, k, 3, 60), PARTED);
            due(says(40 + k, k, 3, 60), PARTED);
        }
    }

    private static void trace() {
        sentence("THE TRACE: the numbers of BODIES of the latest voice(), as they began, the first 30");
        BlinkMoves x = new BlinkMoves();
        due(x.count(6), 0);
        due(x.body(0), NONE);
        x.person(3, 1, 0);
        int longest = 0;
        for (int kind = 0; kind < 7; kind++) {
            x.become(0, 10 * kind + 3);
            for (int voice = 0; voice < 4; voice++) {
                x.voice(0, voice, 5);
                int n = x.count(6);
                longest = Math.max(longest, n);
                due(x.body(n - 1) >= 10 ? 1 : 0, 1);
                due(x.body(n), NONE);
                due(x.body(-1), NONE);
            }
        }
        due(longest, 6);       // so the 30 are never reached
        x.become(0, 3);
        x.voice(0, 0, 5);
        due(x.count(6), 1);
        due(x.body(0), 10);
        due(x.body(1), NONE);
    }

    private static void sheets() {
        sentence("SHEETS 0 .. 3 are rows of 8, 16, 32 bits, at most 24 numbers, or missing (as at first)");
        BlinkMoves x = new BlinkMoves();
        for (int s = 0; s < 4; s++) {
            due(x.judge(s), NONE);
            due(x.partsAll(s), NONE);
            due(x.put(s, 0, 0), NONE);
            due(x.move(s, 0, s, 0, 0), NONE);
            due(x.sheet(s, 8 << Math.min(s, 2), 24), 1);
            due(x.put(s, 23, 1), 1);
            due(x.put(s, 24, 1), BEYOND);
        }
        due(x.told(1), 4);
        due(x.told(2), 16);
        refused(Scenes::full, BEYOND, y -> y.sheet(-1, 8, 1));
        refused(Scenes::full, BEYOND, y -> y.sheet(4, 8, 1));
        refused(Scenes::full, BEYOND, y -> y.sheet(0, 8, 25));
    }
}
