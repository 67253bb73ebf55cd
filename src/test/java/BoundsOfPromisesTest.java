/** For each promise, each argument at its bounds, each ERROR from both sides, and what is empty or full. */
public final class BoundsOfPromisesTest extends Bounds {
    public static void main(String[] args) {
        newObject();
        person();
        personIs();
        become();
        as();
        beats();
        doing();
        doingIs();
        sets();
        shut();
        feed();
        text();
        textFaults();
        untell();
        law();
        ticks();
        loose();
        tick();
        seed();
        then();
        soonest();
        moment();
        moments();
        away();
        phaseFor();
        odds();
        fits();
        voice();
        voiceParted();
        body();
        sheet();
        sheetRenewed();
        put();
        putBits();
        move();
        movePlaces();
        moveOverlaps();
        partsAll();
        judge();
        image();
        imageKeeps();
        restore();
        tell();
        check();
        count();
        told();
        finish("BoundsOfPromisesTest");
    }

    // ---- people, doings

    private static void newObject() {
        sentence("1: All as at first; no PEOPLE, no DOINGS, no TEXTS");
        Scenes.full();         // what another object holds does not matter
        BlinkMoves x = new BlinkMoves();
        for (int k = 1; k <= 6; k++) {
            due(x.told(k), 0);
        }
        for (int what = 0; what < 7; what++) {
            due(x.count(what), 0);
        }
        due(x.count(7), 1);
        due(x.shut(), 0);
        due(x.untell(0), 0);
        due(x.untell(1), 0);
        due(x.check(), 0);
        refused(BlinkMoves::new, BEYOND, y -> y.personIs(0, 0));
        refused(BlinkMoves::new, BEYOND, y -> y.become(0, 0));
        refused(BlinkMoves::new, BEYOND, y -> y.as(0, 0));
        refused(BlinkMoves::new, BEYOND, y -> y.beats(0, 1, 0));
        refused(BlinkMoves::new, BEYOND, y -> y.doing(0, 0, 0));
        refused(BlinkMoves::new, BEYOND, y -> y.doingIs(0, 0));
        refused(BlinkMoves::new, BEYOND, y -> y.sets(0, 0));
        refused(BlinkMoves::new, BEYOND, y -> y.then(0, 0));
        refused(BlinkMoves::new, BEYOND, y -> y.soonest(0));
        refused(BlinkMoves::new, BEYOND, y -> y.moment(1));
        refused(BlinkMoves::new, BEYOND, y -> y.moments(1, 0));
        refused(BlinkMoves::new, BEYOND, y -> y.away(0, 0, 0));
        refused(BlinkMoves::new, BEYOND, y -> y.phaseFor(0, 0, 0));
        refused(BlinkMoves::new, BEYOND, y -> y.odds(1, 1, 0));
        refused(BlinkMoves::new, BEYOND, y -> y.voice(0, 0, 0));
        refused(BlinkMoves::new, NONE, y -> y.body(0));
        refused(BlinkMoves::new, NONE, y -> y.restore());
        refused(BlinkMoves::new, NONE, y -> y.put(0, 0, 0));
        refused(BlinkMoves::new, NONE, y -> y.partsAll(0));
        refused(BlinkMoves::new, NONE, y -> y.judge(0));
        refused(BlinkMoves::new, NONE, y -> y.move(0, 0, 0, 0, 0));
    }

    private static void person() {
        sentence("2 person: the number");
        BlinkMoves x = new BlinkMoves();
        for (int i = 0; i < 6; i++) {
            due(x.person(i, 1, 0), i);
        }
        sentence("2 person: BEYOND");
        range(Scenes::roomy, 0, 69, (y, v) -> y.person(v, 1, 0));
        range(Scenes::roomy, 1, 12, (y, v) -> y.person(0, v, 0));
        range(Scenes::roomy, 0, 11, (y, v) -> y.person(0, 12, v));
        range(Scenes::roomy, 0, 0, (y, v) -> y.person(0, 1, v));
        sentence("2 person: FULL");
        refused(Scenes::full, FULL, y -> y.person(69, 12, 11));
        refused(Scenes::full, BEYOND, y -> y.person(69, 12, 12));
    }

    private static void personIs() {
        sentence("3 personIs: BEYOND");
        for (int w = 0; w <= 4; w++) {
            int what = w;
            range(Scenes::full, 0, 5, (y, v) -> y.personIs(v, what));
        }
        range(Scenes::full, 0, 4, (y, v) -> y.personIs(5, v));
        range(Scenes::roomy, 0, 2, (y, v) -> y.personIs(v, 4));
    }

    private static void become() {
        sentence("4 become: BEYOND");
        range(Scenes::full, 0, 5, (y, v) -> y.become(v, 0));
        range(Scenes::full, 0, 69, (y, v) -> y.become(0, v));
        range(Scenes::roomy, 0, 2, (y, v) -> y.become(v, 69));
        sentence("4 become: the KIND that one was (BEAT and PHASE stay)");
        BlinkMoves x = seers(12, 11);
        due(x.become(0, 69), 0);
        due(x.become(0, 0), 6);
        due(x.become(0, 9), 0);
        due(x.personIs(0, 1), 9);
        due(x.personIs(0, 2), 12);
        due(x.personIs(0, 3), 11);
    }

    private static void as() {
        sentence("5 as: BEYOND");
        range(Scenes::full, 0, 5, (y, v) -> y.as(v, 0));
        range(() -> ofKind(6), 0, 0, (y, v) -> y.as(v, 6));
        for (int v : new int[] {-1, 7, MIN, MAX}) {
            refused(Scenes::full, BEYOND, y -> y.as(0, v));
            refused(Scenes::full, BEYOND, y -> y.as(6, v));
        }
        sentence("5 as: KIND: one isn't of that KIND, nor of one under it");
        int[] above = {-1, 0, 0, 0, 1, 2, 0};
        for (int kind = 0; kind < 7; kind++) {
            int of = kind;
            for (int as = 0; as < 7; as++) {
                int asked = as;
                if (as == kind || as == above[kind] || as == 0) {
                    due(ofKind(kind).as(0, as), 8);
                } else {
                    refused(() -> ofKind(of), KIND, y -> y.as(0, asked));
                }
            }
        }
    }

    private static BlinkMoves ofKind(int kind) {
        BlinkMoves x = new BlinkMoves();
        x.person(10 * kind + 8, 1, 0);
        return x;
    }

    private static void beats() {
        sentence("6 beats: BEYOND");
        range(Scenes::full, 0, 5, (y, v) -> y.beats(v, 1, 0));
        range(Scenes::full, 1, 12, (y, v) -> y.beats(0, v, 0));
        range(Scenes::full, 0, 11, (y, v) -> y.beats(0, 12, v));
        range(Scenes::full, 0, 0, (y, v) -> y.beats(0, 1, v));
        range(Scenes::roomy, 0, 2, (y, v) -> y.beats(v, 12, 11));
        sentence("6 beats: what BEAT was");
        BlinkMoves x = seers(12, 11);
        due(x.beats(0, 1, 0), 12);
        due(x.beats(0, 12, 11), 1);
        due(x.personIs(0, 3), 11);
    }

    private static void doing() {
        sentence("7 doing: BEYOND");
        range(Scenes::roomy, 0, 2, (y, v) -> y.doing(v, 1, 0));
        range(Scenes::roomy, 0, 99, (y, v) -> y.doing(0, v, 0));
        for (int v : new int[] {0, 2, 4, 6}) {
            due(Scenes.roomy().doing(0, 1, v), 2);
        }
        for (int v : new int[] {-1, 8, 14, 64, MIN, MAX}) {
            refused(Scenes::roomy, BEYOND, y -> y.doing(0, 1, v));
        }
        sentence("7 doing: BEYOND: also WATCHERS with the one who does it among them");
        for (int v : new int[] {1, 3, 5, 7}) {
            refused(Scenes::roomy, BEYOND, y -> y.doing(0, 1, v));
        }
        sentence("7 doing: FULL");
        refused(Scenes::full, FULL, y -> y.doing(5, 99, 31));
        refused(Scenes::full, BEYOND, y -> y.doing(5, 99, 32));
        BlinkMoves x = new BlinkMoves();
        for (int i = 0; i < 6; i++) {
            x.person(0, 1, 0);
        }
        for (int i = 0; i < 6; i++) {
            due(x.doing(i, 99, 63 - (1 << i)), i);
            due(x.doingIs(i, 0), i);
            due(x.doingIs(i, 2), 63 - (1 << i));
        }
        due(x.doing(0, 0, 0), FULL);
        due(x.count(3), 594);
    }

    private static void doingIs() {
        sentence("8 doingIs: BEYOND");
        for (int w = 0; w <= 3; w++) {
            int what = w;
            range(Scenes::full, 0, 5, (y, v) -> y.doingIs(v, what));
        }
        range(Scenes::full, 0, 3, (y, v) -> y.doingIs(5, v));
        range(Scenes::roomy, 0, 1, (y, v) -> y.doingIs(v, 3));
        sentence("8 doingIs: by how much it would GET ON now (whether it may or not)");
        BlinkMoves x = seers(1, 0, 12, 0);
        x.doing(0, 1, 2);
        x.tick(1);
        due(x.doingIs(0, 3), 1);
        x.sets(0, 0);
        due(x.doingIs(0, 3), 1);
        Scenes.text(x, 1, "10");
        due(x.doingIs(0, 3), 9);
        Scenes.text(x, 1, "0-1");
        due(x.doingIs(0, 3), 0);
    }

    private static void sets() {
        sentence("9 sets: BEYOND");
        range(Scenes::full, 0, 5, (y, v) -> y.sets(v, 0));
        range(Scenes::full, 0, 99, (y, v) -> y.sets(5, v));
        range(Scenes::roomy, 0, 1, (y, v) -> y.sets(v, 99));
        sentence("9 sets: what they were");
        BlinkMoves x = Scenes.full();
        due(x.sets(2, 0), 99);
        due(x.sets(2, 99), 0);
        due(x.doingIs(2, 1), 99);
    }

    private static void shut() {
        sentence("10 shut: Who is SHUT now, as a set");
        BlinkMoves x = new BlinkMoves();
        due(x.shut(), 0);
        for (int i = 0; i < 6; i++) {
            x.person(0, 12, i);
            due(x.shut(), 1);
        }
        for (int t = 0; t < 13; t++) {
            x.tick(t);
            due(x.shut(), t == 0 || t == 12 ? 1 : t < 7 ? 0 : 1 << (12 - t));
        }
        Scenes.text(x, 0, "1");
        due(x.shut(), 63);
    }

    // ---- texts

    private static void feed() {
        sentence("11 feed: BEYOND");
        range(Scenes.tape(0), 1, 8, (y, v) -> y.feed(-1L, v));
        range(Scenes.tape(52), 1, 8, (y, v) -> y.feed(-1L, v));
        sentence("11 feed: FULL");
        for (int n = 1; n <= 8; n++) {
            int more = n;
            due(Scenes.tape(60 - n).get().feed(0L, n), 60);
            refused(Scenes.tape(61 - n), FULL, y -> y.feed(0L, more));
            refused(Scenes.tape(60), FULL, y -> y.feed(0L, more));
        }
        refused(Scenes.tape(60), BEYOND, y -> y.feed(0L, 0));
        refused(Scenes.tape(60), BEYOND, y -> y.feed(0L, 9));
        refused(Scenes.tape(60), BEYOND, y -> y.feed(0L, MAX));
        sentence("11 feed: The n lowest bytes of a word, the lowest first");
        String eight = "r+1>s*t%";   // as bytes 72 2b 31 3e 73 2a 74 25
        for (int n = 1; n <= 8; n++) {
            BlinkMoves x = new BlinkMoves();
            due(x.feed(0x25742a733e312b72L, n), n);
            due(x.feed('?', 1), n + 1);
            due(x.text(0), -10 - n);
            BlinkMoves y = new BlinkMoves();
            y.feed(0x25742a733e312b72L, n);
            due(y.text(0), fault(0, eight.substring(0, n)) < 0 ? 1 : -10 - n);
        }
        BlinkMoves x = new BlinkMoves();
        due(x.feed(0xFF72L, 1), 1);
        due(x.text(0), 1);
        due(x.feed(0x72FFL, 1), 1);
        due(x.text(0), -10);
    }

    private static void text() {
        sentence("12 text: BEYOND (THE TAPE stays)");
        range(Scenes::full, 0, 1, (y, v) -> y.text(v));
        range(Scenes.tape(60), 0, 1, (y, v) -> y.text(v));
        range(Scenes.tape(0), 0, 1, (y, v) -> y.text(v));
        sentence("12 text: THE TAPE, which is empty then, is the TEXT of a USE, in place of one ahead: 1");
        BlinkMoves x = new BlinkMoves();
        due(Scenes.text(x, 1, "1"), 1);
        due(x.count(4), 0);
        due(x.law(1, 0, 0, 0), 1);
        due(Scenes.text(x, 1, "2"), 1);
        due(x.law(1, 0, 0, 0), 2);
        due(x.untell(0), 0);
        due(x.untell(1), 1);
        due(x.untell(1), 0);
        Scenes.write(x, "1".repeat(4) + "+1".repeat(28));
        due(x.count(4), 60);
        due(x.text(1), 1);
        due(x.count(4), 0);
        due(x.feed('1', 8), 8);
    }

    private static void textFaults() {
        sentence("12 text: -10 less the FAULT (no ERROR; the one ahead stays; THE TAPE is empty, too)");
        String[] bad = {"", "s", "p-", "p-s", "(((((p", "l".repeat(60), "p+".repeat(30)};
        int[] fault = {0, 0, 2, 2, 6, 1, 60};
        for (int i = 0; i < bad.length; i++) {
            BlinkMoves x = Scenes.tape(0).get();
            BlinkMoves twin = Scenes.tape(0).get();
            Scenes.write(x, bad[i]);
            due(x.text(1), -10 - fault[i]);
            for (int k = 1; k <= 6; k++) {
                due(x.told(k), twin.told(k));
            }
            same(x, twin);
        }
        BlinkMoves x = new BlinkMoves();
        due(x.text(0), -10);
        due(x.untell(0), 0);
    }

    private static void untell() {
        sentence("13 untell: BEYOND");
        range(Scenes::full, 0, 1, (y, v) -> y.untell(v));
        sentence("13 untell: 1 if there was, else 0");
        for (int use = 0; use < 2; use++) {
            BlinkMoves x = Scenes.full();
            due(x.untell(use), 1);
            due(x.untell(use), 0);
            due(x.law(use, 0, 0, 9), 0);
            due(x.untell(1 - use), 1);
            due(x.untell(1 - use), 0);
            due(x.count(4), 5);
        }
    }

    private static void law() {
        sentence("14 law: BEYOND");
        range(Scenes::full, 0, 1, (y, v) -> y.law(v, 1, 1, 1));
        sentence("14 law: its NAMES in order as a, b, c (any number)");
        for (int v : new int[] {MIN, LOW - 1, -1, 0, 1, MAX}) {
            due(gives(0, "r=s-1", v, v + 1, 0), 1);
            due(gives(0, "r=t-1", v, 0, v + 1), 1);
            due(gives(1, "p=o-1", v, v + 1, 0), 1);
            due(gives(1, "p=l-1", v, 0, v + 1), 1);
        }
    }

    // ---- ticks

    private static void ticks() {
        sentence("15 ticks: n (1 .. 200). BEYOND");
        range(Scenes::full, 1, 200, (y, v) -> y.ticks(v));
        sentence("15 ticks: STATE: TICK would be above 99999");
        for (int n : new int[] {1, 2, 199, 200}) {
            BlinkMoves x = Scenes.fullAt(99999 - n).get();
            isNoError(x.ticks(n));
            due(x.count(2), 99999);
            refused(Scenes.fullAt(100000 - n), STATE, y -> y.ticks(n));
            refused(Scenes::late, STATE, y -> y.ticks(n));
        }
        for (int n : new int[] {MIN, 0, 201, MAX}) {
            refused(Scenes::late, BEYOND, y -> y.ticks(n));
        }
        sentence("15 ticks: how many DOINGS lost their last PARTS");
        BlinkMoves x = seers(1, 0);
        for (int parts : new int[] {0, 1, 2, 99, 3, 3}) {
            x.doing(0, parts, 0);
        }
        due(x.ticks(2), 2);
        due(x.ticks(1), 2);
        due(x.ticks(95), 0);
        due(x.ticks(1), 1);
        due(x.ticks(200), 0);
    }

    private static void loose() {
        sentence("16 loose: n (1 .. 30). BEYOND");
        range(Scenes::full, 1, 30, (y, v) -> y.loose(v));
        sentence("16 loose: STATE: TICK would be above 99999");
        for (int n : new int[] {1, 2, 29, 30}) {
            BlinkMoves x = Scenes.fullAt(99999 - n).get();
            isNoError(x.loose(n));
            due(x.count(2), 99999);
            refused(Scenes.fullAt(100000 - n), STATE, y -> y.loose(n));
            refused(Scenes::late, STATE, y -> y.loose(n));
        }
        for (int n : new int[] {MIN, 0, 31, MAX}) {
            refused(Scenes::late, BEYOND, y -> y.loose(n));
        }
        sentence("16 loose: likewise");
        BlinkMoves x = seers(1, 0);
        for (int parts : new int[] {0, 1, 2, 31}) {
            x.doing(0, parts, 0);
        }
        due(x.loose(30), 2);
        due(x.loose(1), 1);
    }

    private static void tick() {
        sentence("17 tick: BEYOND");
        range(Scenes::full, 0, 99999, (y, v) -> y.tick(v));
        sentence("17 tick: what it was");
        BlinkMoves x = new BlinkMoves();
        due(x.tick(99999), 0);
        due(x.tick(100000), BEYOND);
        due(x.tick(0), 99999);
        due(x.tick(-1), BEYOND);
        due(x.count(2), 0);
    }

    private static void seed() {
        sentence("18 seed: z becomes v: what it was (any number)");
        BlinkMoves x = new BlinkMoves();
        int before = 1;
        for (int v : new int[] {MIN, MAX, 0, -1, LOW, BEYOND, NONE, STATE, FULL, KIND, PARTED, LOW - 7}) {
            due(x.seed(v), before);
            due(x.count(7), v);
            before = v;
        }
        for (int k = 1; k <= 6; k++) {
            due(x.told(k), 0);
        }
    }

    // ---- what would be

    private static void then() {
        sentence("19 then: n (0 .. 200). BEYOND");
        range(Scenes::full, 0, 5, (y, v) -> y.then(v, 0));
        range(Scenes::full, 0, 200, (y, v) -> y.then(2, v));
        range(Scenes::late, 0, 200, (y, v) -> y.then(2, v));
        range(Scenes::roomy, 0, 1, (y, v) -> y.then(v, 200));
        due(Scenes.full().then(2, 0), 99);
    }

    private static void soonest() {
        sentence("20 soonest: BEYOND");
        range(Scenes::idle, 0, 5, (y, v) -> y.soonest(v));
        range(() -> Scenes.rareMeeting(923), 0, 0, (y, v) -> y.soonest(v));
        sentence("20 soonest: NONE: not by 200");
        due(Scenes.rareMeeting(724).soonest(0), 200);
        refused(() -> Scenes.rareMeeting(723), NONE, y -> y.soonest(0));
        BlinkMoves x = seers(2, 1);
        x.doing(0, 99, 0);
        due(x.soonest(0), 99);
        Scenes.text(x, 1, "0");
        due(x.soonest(0), NONE);
        x.sets(0, 0);
        due(x.soonest(0), 0);
        due(x.told(2), 1);
    }

    private static void moment() {
        sentence("21 moment: BEYOND");
        due(Scenes.roomy().moment(0), 0);
        due(new BlinkMoves().moment(0), 0);
        isNoError(seers(1, 0, 1, 0, 1, 0).moment(7));
        range(() -> seers(1, 0, 1, 0, 1, 0, 1, 0, 1, 0, 1, 0), 0, 63, (y, v) -> y.moment(v));
        range(() -> seers(1, 0, 1, 0), 0, 3, (y, v) -> y.moment(v));
        sentence("21 moment: NONE: not by 400");
        due(Scenes.rareMeeting(523).moment(7), 400);
        due(Scenes.rareMeeting(524).moment(7), 399);
        due(Scenes.rareMeeting(923).moment(7), 0);
        refused(() -> Scenes.rareMeeting(522), NONE, y -> y.moment(7));
        refused(() -> Scenes.rareMeeting(924), NONE, y -> y.moment(7));
    }

    private static void moments() {
        sentence("22 moments: the next n (0 .. 99) TICKS. BEYOND");
        range(Scenes::full, 0, 63, (y, v) -> y.moments(v, 9));
        range(Scenes::full, 0, 99, (y, v) -> y.moments(1, v));
        range(Scenes::roomy, 0, 7, (y, v) -> y.moments(v, 99));
        range(BlinkMoves::new, 0, 0, (y, v) -> y.moments(v, 0));
        sentence("22 moments: the one at hand first");
        BlinkMoves x = seers(99 % 12, 0);   // BEAT 3
        due(x.moments(1, 0), 0);
        due(x.moments(1, 1), 1);
        due(x.moments(1, 3), 1);
        due(x.moments(1, 4), 2);
        due(x.moments(1, 99), 33);
        due(x.moments(0, 0), 0);
        due(x.moments(0, 99), 99);
    }

    private static void away() {
        sentence("23 away: n (0 .. 99): what 0 how many, 1 the set. BEYOND");
        range(Scenes::idle, 0, 5, (y, v) -> y.away(v, 0, 0));
        range(Scenes::idle, 0, 99, (y, v) -> y.away(4, v, 1));
        range(() -> Scenes.rareMeeting(825), 0, 1, (y, v) -> y.away(0, 99, v));
        sentence("23 away: NONE: not with all away");
        for (int parts : new int[] {1, 2, 98, 99}) {
            BlinkMoves x = neverSeen(parts);
            due(x.away(0, parts, 0), 2);
            due(x.away(0, parts, 1), 6);
            refused(() -> neverSeen(parts), NONE, y -> y.away(0, parts - 1, 0));
            refused(() -> neverSeen(parts), NONE, y -> y.away(0, parts - 1, 1));
        }
        due(neverSeen(0).away(0, 0, 0), 0);
        due(neverSeen(0).away(0, 0, 1), 0);
    }

    /** One part a TICK, by one whose two WATCHERS are never SHUT. */
    private static BlinkMoves neverSeen(int parts) {
        BlinkMoves x = new BlinkMoves();
        x.person(0, 1, 0);
        x.person(56, 1, 0);
        x.person(56, 1, 0);
        x.doing(0, parts, 6);
        return x;
    }

    private static void phaseFor() {
        sentence("24 phaseFor: what 0 the PHASE, 1 behind how many. BEYOND");
        range(Scenes::idle, 0, 5, (y, v) -> y.phaseFor(v, 4, 0));
        range(Scenes::idle, 0, 5, (y, v) -> y.phaseFor(5, v, 1));
        range(() -> Scenes.rareMeeting(825), 0, 3, (y, v) -> y.phaseFor(v, 0, 1));
        range(() -> Scenes.rareMeeting(825), 0, 1, (y, v) -> y.phaseFor(0, 0, v));
        sentence("24 phaseFor: NONE: by none");
        BlinkMoves x = neverSeen(99);
        x.become(1, 0);
        x.become(2, 0);
        due(x.phaseFor(1, 0, 0), 0);
        due(x.phaseFor(1, 0, 1), 99);
        refused(() -> neverSeen(1), NONE, y -> y.phaseFor(1, 0, 0));
        refused(() -> neverSeen(1), NONE, y -> y.phaseFor(1, 0, 1));
        due(Scenes.rareMeeting(825).phaseFor(3, 0, 1), 99);
        refused(() -> Scenes.rareMeeting(824), NONE, y -> y.phaseFor(3, 0, 1));
    }

    private static void odds() {
        sentence("25 odds: for n (1 .. 99): part 0 above, 1 below the line. BEYOND");
        range(Scenes::full, 0, 63, (y, v) -> y.odds(v, 9, 0));
        range(Scenes::full, 1, 99, (y, v) -> y.odds(1, v, 1));
        range(Scenes::full, 0, 1, (y, v) -> y.odds(1, 9, v));
        range(Scenes::roomy, 0, 7, (y, v) -> y.odds(v, 99, 1));
        range(BlinkMoves::new, 0, 0, (y, v) -> y.odds(v, 1, 0));
    }

    private static void fits() {
        sentence("26 fits: BEYOND");
        range(Scenes::emptySheets, 0, 3, (y, v) -> y.fits(v, 0, 0));
        range(Scenes::full, 0, 5, (y, v) -> y.fits(0, v, 0));
        range(Scenes::roomy, 0, 2, (y, v) -> y.fits(0, v, 0));
        range(Scenes::emptySheets, 0, 1, (y, v) -> y.fits(0, 0, v));
        sentence("26 fits: NONE: the SHEET is missing");
        refused(Scenes::full, NONE, y -> y.fits(3, 0, 0));
        refused(Scenes::full, NONE, y -> y.fits(3, 5, 1));
        sentence("26 fits: NONE: (what 1) there is none");
        due(Scenes.full().fits(2, 0, 0), 0);
        refused(Scenes::full, NONE, y -> y.fits(2, 0, 1));
        due(Scenes.emptySheets().fits(2, 0, 0), 78);
        due(Scenes.emptySheets().fits(2, 0, 1), 100);
    }

    // ---- voices, sheets, images, what is told

    private static void voice() {
        sentence("27 voice: BEYOND");
        range(Scenes::full, 0, 5, (y, v) -> y.voice(v, 0, 1));
        range(Scenes::full, 0, 3, (y, v) -> y.voice(0, v, 1));
        range(Scenes::roomy, 0, 2, (y, v) -> y.voice(v, 2, 1));
        sentence("27 voice: any number");
        BlinkMoves x = seers(1, 0);
        for (int v : new int[] {MIN, LOW, BEYOND, NONE, STATE, FULL, KIND, PARTED, LOW - 7, -1, 0, MAX}) {
            due(x.voice(0, 0, v), v);
        }
        for (int k = 1; k <= 6; k++) {
            due(x.told(k), 0);
        }
    }

    private static void voiceParted() {
        sentence("27 voice: PARTED (THE TRACE is of it)");
        refused(BoundsOfPromisesTest::spoken, PARTED, y -> y.voice(0, 3, 5));
        refused(BoundsOfPromisesTest::spoken, PARTED, y -> y.voice(0, 3, 0));
        refused(BoundsOfPromisesTest::spoken, PARTED, y -> y.voice(0, 3, MIN));
        BlinkMoves x = spoken();
        x.voice(0, 2, 5);
        due(x.count(6), 3);
        due(x.voice(0, 3, 5), PARTED);
        due(x.count(6), 1);
        due(x.body(0), 13);
        due(x.body(1), NONE);
        due(x.told(6), 1);
        due(x.voice(0, 4, 5), BEYOND);
        due(x.voice(6, 0, 5), BEYOND);
        due(x.count(6), 1);
        due(x.voice(0, 0, 5), 5);
        due(x.body(0), 10);
        due(x.told(6), 1);
    }

    /** One whose parts are PARTED, and who has just told those of another m: the same TRACE. */
    private static BlinkMoves spoken() {
        BlinkMoves x = Scenes.full();
        x.become(0, 1);
        x.voice(0, 3, 5);
        x.become(0, 0);
        return x;
    }

    private static void body() {
        sentence("28 body: NONE: there is none such");
        due(Scenes.full().count(6), 5);
        due(Scenes.full().body(0), 21);
        due(Scenes.full().body(4), 10);
        for (int v : new int[] {-1, 5, 29, 30, MIN, MAX}) {
            refused(Scenes::full, NONE, y -> y.body(v));
            refused(BlinkMoves::new, NONE, y -> y.body(v));
        }
        refused(BlinkMoves::new, NONE, y -> y.body(0));
    }

    private static void sheet() {
        sentence("29 sheet: BEYOND");
        range(Scenes::full, 0, 3, (y, v) -> y.sheet(v, 8, 1));
        for (int bits : new int[] {0, 8, 16, 32}) {
            range(Scenes::full, 0, 3, (y, v) -> y.sheet(v, bits, 0));
            due(Scenes.full().sheet(0, bits, 24), 1);
        }
        for (int bits : new int[] {-32, -8, -1, 1, 7, 9, 15, 17, 24, 31, 33, 64, MIN, MAX}) {
            refused(Scenes::full, BEYOND, y -> y.sheet(0, bits, 1));
            refused(Scenes::full, BEYOND, y -> y.sheet(0, bits, -1));
        }
        sentence("29 sheet: STATE: n is below 0 (ahead of BEYOND of n)");
        for (int bits : new int[] {8, 16, 32}) {
            due(Scenes.full().sheet(0, bits, 0), 1);
            due(Scenes.full().sheet(3, bits, 24), 1);
            for (int n : new int[] {-1, -2, MIN}) {
                refused(Scenes::full, STATE, y -> y.sheet(0, bits, n));
                refused(Scenes::full, BEYOND, y -> y.sheet(-1, bits, n));
            }
            for (int n : new int[] {25, 26, MAX}) {
                refused(Scenes::full, BEYOND, y -> y.sheet(0, bits, n));
            }
        }
    }

    private static void sheetRenewed() {
        sentence("29 sheet: 0: it is missing, n doesn't matter");
        for (int n : new int[] {MIN, -1, 0, 24, 25, MAX}) {
            BlinkMoves x = Scenes.full();
            due(x.sheet(0, 0, n), 1);
            due(x.judge(0), NONE);
            due(x.sheet(0, 0, n), 1);
            due(x.judge(1) > NONE ? 1 : 0, 1);
        }
        sentence("29 sheet: n numbers, all 0");
        for (int n = 0; n <= 24; n++) {
            BlinkMoves x = Scenes.full();
            for (int d = 0; d < 6; d++) {
                x.sets(d, 7);
            }
            due(x.sheet(2, 32, n), 1);
            due(x.move(2, 0, 2, 0, n), n);
            due(x.move(2, 0, 2, 0, n + 1), BEYOND);
            due(x.partsAll(2), Math.min(6, n));
            due(x.count(3), 7 * (6 - Math.min(6, n)));
            due(x.move(2, Math.max(0, n - 6), 2, 0, Math.min(6, n)), Math.min(6, n));
            due(x.partsAll(2), Math.min(6, n));
            due(x.count(3), 7 * (6 - Math.min(6, n)));
        }
    }

    private static void put() {
        sentence("30 put: BEYOND: no such SHEET");
        range(Scenes::sheetsOfOne, 0, 3, (y, v) -> y.put(v, 0, 5));
        refused(Scenes::full, BEYOND, y -> y.put(4, 99, 0));
        sentence("30 put: NONE: it is missing");
        for (int i : new int[] {-1, 0, 24, MIN, MAX}) {
            refused(Scenes::full, NONE, y -> y.put(3, i, 1));
        }
        sentence("30 put: BEYOND: no such number");
        range(Scenes::full, 0, 2, (y, v) -> y.put(0, v, 5));
        range(Scenes::full, 0, 6, (y, v) -> y.put(1, v, 5));
        range(Scenes::full, 0, 23, (y, v) -> y.put(2, v, 5));
        for (int i : new int[] {-1, 0, MAX}) {
            refused(Scenes::emptySheets, BEYOND, y -> y.put(0, i, 5));
        }
    }

    private static void putBits() {
        sentence("30 put: Number i of a SHEET becomes v (its lowest bits)");
        int[] put = {0, 99, 100, 255, 256, 355, 356, 65535, 65536, 65635, 65636, -1, -256, -157, -65536, -65437, MIN, MAX};
        int[] low8 = {0, 99, -1, -1, 0, 99, -1, -1, 0, 99, -1, -1, 0, 99, 0, 99, 0, -1};
        int[] low16 = {0, 99, -1, -1, -1, -1, -1, -1, 0, 99, -1, -1, -1, -1, 0, 99, 0, -1};
        for (int i = 0; i < put.length; i++) {
            int whole = put[i] >= 0 && put[i] <= 99 ? put[i] : -1;
            duePut(8, put[i], low8[i]);
            duePut(16, put[i], low16[i]);
            duePut(32, put[i], whole);
        }
    }

    /** The number as PARTS; -1 if it is not one of 0 to 99. */
    private static void duePut(int bits, int v, int want) {
        BlinkMoves x = Scenes.full();
        x.sheet(0, bits, 1);
        due(x.put(0, 0, v), 1);
        due(x.partsAll(0), want < 0 ? 0 : 1);
        due(x.doingIs(0, 1), want < 0 ? 4 : want);
    }

    private static void move() {
        sentence("31 move: BEYOND: no such SHEET");
        for (int v : new int[] {-1, 4, MIN, MAX}) {
            refused(Scenes::full, BEYOND, y -> y.move(v, 0, 0, 0, 1));
            refused(Scenes::full, BEYOND, y -> y.move(0, 0, v, 0, 1));
            refused(Scenes::full, BEYOND, y -> y.move(v, 0, 3, 0, 1));
            refused(Scenes::full, BEYOND, y -> y.move(3, 0, v, 0, 1));
        }
        sentence("31 move: NONE: one is missing");
        refused(Scenes::full, NONE, y -> y.move(3, 0, 3, 0, 0));
        for (int s = 0; s < 3; s++) {
            int there = s;
            refused(Scenes::full, NONE, y -> y.move(there, 0, 3, 0, 1));
            refused(Scenes::full, NONE, y -> y.move(3, 0, there, 0, 1));
        }
        sentence("31 move: KIND: they are of unlike bits");
        for (int s = 0; s < 3; s++) {
            for (int o = 0; o < 3; o++) {
                int from = s, to = o;
                if (from == to) {
                    due(Scenes.full().move(from, 0, to, 0, 1), 1);
                } else {
                    refused(Scenes::full, KIND, y -> y.move(from, 0, to, 0, 1));
                    refused(Scenes::full, KIND, y -> y.move(from, -1, to, 0, 0));
                    refused(Scenes::full, KIND, y -> y.move(from, 0, to, 99, MIN));
                }
            }
        }
    }

    private static void movePlaces() {
        sentence("31 move: BEYOND: n, i, or j is below 0, or they don't stand there");
        BlinkMoves x = sevenAndFour();
        due(x.move(1, 0, 3, 0, 4), 4);
        due(x.move(1, 3, 3, 0, 4), 4);
        due(x.move(1, 6, 3, 3, 1), 1);
        due(x.move(1, 7, 3, 4, 0), 0);
        due(x.move(1, 0, 3, 0, 0), 0);
        due(x.move(3, 0, 1, 3, 4), 4);
        int[][] wrong = {{-1, 0, 1}, {0, -1, 1}, {0, 0, -1}, {-1, -1, 0}, {4, 0, 4}, {0, 1, 4}, {0, 0, 5}, {7, 0, 1},
            {0, 4, 1}, {8, 0, 0}, {0, 5, 0}, {MAX, 0, 1}, {0, MAX, 1}, {0, 0, MAX}, {1, 1, MAX}, {MAX, MAX, MAX},
            {MIN, 0, 1}, {0, MIN, 1}, {0, 0, MIN}, {MAX, 0, 0}, {0, MAX, 0}, {MIN, MIN, MIN}, {-1, 0, 0}, {0, -1, 0}};
        for (int[] w : wrong) {
            refused(BoundsOfPromisesTest::sevenAndFour, BEYOND, y -> y.move(1, w[0], 3, w[1], w[2]));
        }
        due(Scenes.emptySheets().move(0, 0, 0, 0, 0), 0);
        refused(Scenes::emptySheets, BEYOND, y -> y.move(0, 0, 0, 0, 1));
        refused(Scenes::emptySheets, BEYOND, y -> y.move(0, 1, 0, 0, 0));
    }

    /** SHEET 1 has seven numbers of 16 bits, SHEET 3 four. */
    private static BlinkMoves sevenAndFour() {
        BlinkMoves x = Scenes.full();
        x.sheet(3, 16, 4);
        for (int i = 0; i < 4; i++) {
            x.put(3, i, 60 + i);
        }
        return x;
    }

    private static void moveOverlaps() {
        sentence("31 move: come to another one (or the same), as they all were: n");
        for (int from = 0; from <= 6; from++) {
            for (int to = 0; to <= 6; to++) {
                for (int n = 0; n <= 6 - Math.max(from, to); n++) {
                    dueMove(from, to, n);
                }
            }
        }
    }

    private static void dueMove(int from, int to, int n) {
        BlinkMoves x = Scenes.full();
        x.sheet(0, 8, 6);
        for (int i = 0; i < 6; i++) {
            x.put(0, i, 50 + i);
        }
        due(x.move(0, from, 0, to, n), n);
        due(x.partsAll(0), 6);
        for (int i = 0; i < 6; i++) {
            due(x.doingIs(i, 1), i >= to && i < to + n ? 50 + i - to + from : 50 + i);
        }
    }

    private static void partsAll() {
        sentence("32 partsAll: BEYOND: no such SHEET");
        range(Scenes::emptySheets, 0, 3, (y, v) -> y.partsAll(v));
        sentence("32 partsAll: NONE: it is missing");
        refused(Scenes::full, NONE, y -> y.partsAll(3));
        sentence("32 partsAll: how many, up to the first that is not 0 to 99 (no ERROR then)");
        for (int place = 0; place < 6; place++) {
            for (int v : new int[] {-1, 100, 255, MIN, MAX}) {
                BlinkMoves x = Scenes.full();
                x.sheet(2, 32, 6);
                x.put(2, place, v);
                due(x.partsAll(2), place);
                for (int d = 0; d < 6; d++) {
                    due(x.doingIs(d, 1), d < place ? 0 : Scenes.full().doingIs(d, 1));
                }
                due(x.told(1), 0);
                x.put(2, place, 99);
                due(x.partsAll(2), 6);
                due(x.count(3), 99);
            }
        }
        sentence("32 partsAll: or for which there is no DOING");
        due(Scenes.roomy().partsAll(0), 2);
        due(Scenes.roomy().partsAll(2), 2);
        due(Scenes.full().partsAll(2), 6);
        due(Scenes.full().partsAll(0), 3);
        due(Scenes.emptySheets().partsAll(0), 0);
        BlinkMoves x = new BlinkMoves();
        x.sheet(0, 8, 1);
        due(x.partsAll(0), 0);
    }

    private static void judge() {
        sentence("33 judge: BEYOND: no such SHEET");
        range(Scenes::emptySheets, 0, 3, (y, v) -> y.judge(v));
        sentence("33 judge: NONE: it is missing");
        refused(Scenes::full, NONE, y -> y.judge(3));
        sentence("33 judge: how many are right, from the first on");
        due(Scenes.emptySheets().judge(0), 0);
        BlinkMoves x = seers(2, 0, 3, 0);
        int[] sets = {3, 0, 1, 2, 1, 0};
        x.sheet(0, 8, 24);
        for (int i = 0; i < 24; i++) {
            x.put(0, i, sets[i % 6]);
        }
        due(x.judge(0), 24);
        for (int i = 0; i < 24; i++) {
            for (int wrong : new int[] {sets[i % 6] ^ 1, sets[i % 6] ^ 2, sets[i % 6] + 4, -1}) {
                x.put(0, i, wrong);
                due(x.judge(0), i);
            }
            x.put(0, i, sets[i % 6]);
        }
        due(new BlinkMoves().judge(0), NONE);
        BlinkMoves none = new BlinkMoves();
        none.sheet(0, 8, 24);
        due(none.judge(0), 24);
    }

    private static void image() {
        sentence("34 image: how often that was done");
        BlinkMoves x = new BlinkMoves();
        for (int i = 1; i <= 5; i++) {
            due(x.image(), i);
            due(x.restore(), 0);
        }
        sentence("34 image: in place of one ahead");
        x.tick(1);
        due(x.image(), 6);
        x.tick(2);
        due(x.image(), 7);
        x.tick(3);
        due(x.restore(), 2);
        due(x.restore(), 2);
    }

    private static void imageKeeps() {
        sentence("34 image: All (but SHEETS, THE TRACE, what told() tells, and how often this was done)");
        BlinkMoves x = Scenes.full();
        x.image();
        x.become(0, 69);
        x.beats(1, 1, 0);
        x.sets(0, 99);
        x.tick(99999);
        x.seed(MIN);
        x.untell(0);
        due(x.text(1), 1);
        due(Scenes.text(x, 1, "9"), 1);
        x.feed(0L, 8);
        x.check();
        for (int i = 0; i < 24; i++) {
            x.tell(i);
        }
        x.ticks(1);
        due(x.restore(), 40);
        BlinkMoves twin = Scenes.full();
        twin.image();
        due(x.told(3), 1);
        due(twin.told(3), 0);
        same(x, twin);
        x = Scenes.full();
        x.image();
        x.sheet(0, 16, 9);
        x.sheet(3, 8, 2);
        x.put(2, 0, 77);
        x.voice(0, 0, 0);
        twin = Scenes.full();
        twin.image();
        twin.sheet(0, 16, 9);
        twin.sheet(3, 8, 2);
        twin.put(2, 0, 77);
        twin.voice(0, 0, 0);
        x.restore();
        same(x, twin);
    }

    private static void restore() {
        sentence("35 restore: NONE: there is none");
        refused(BlinkMoves::new, NONE, y -> y.restore());
        refused(() -> Scenes.rareMeeting(9), NONE, y -> y.restore());
        sentence("35 restore: All is as the IMAGE has it, which stays: TICK");
        BlinkMoves y = Scenes.full();
        due(y.image(), 3);
        refilled(y);
        due(y.restore(), 40);
        BlinkMoves twin = Scenes.full();
        due(twin.image(), 3);
        same(y, twin);
        y = Scenes.full();
        y.image();
        refilled(y);
        y.restore();
        refilled(y);
        due(y.restore(), 40);
        twin = Scenes.full();
        twin.image();
        same(y, twin);
        BlinkMoves x = new BlinkMoves();
        due(x.image(), 1);
        for (int i = 0; i < 6; i++) {
            x.person(69, 12, 11);
        }
        for (int i = 0; i < 6; i++) {
            x.doing(0, 99, 62);
        }
        Scenes.text(x, 0, "1");
        x.tick(99999);
        due(x.restore(), 0);
        for (int what = 0; what < 7; what++) {
            due(x.count(what), 0);
        }
        due(x.person(0, 1, 0), 0);
        due(x.doing(0, 0, 0), 0);
        due(x.untell(0), 0);
        x.tick(5);
        due(x.restore(), 0);
        due(x.personIs(0, 0), BEYOND);
        due(x.doingIs(0, 0), BEYOND);
    }

    /** All that the IMAGE keeps becomes another thing. */
    private static void refilled(BlinkMoves x) {
        for (int i = 0; i < 6; i++) {
            x.become(i, 69 - 10 * i);
            x.beats(i, 12 - i, 6 - i);
            x.sets(i, 50 + i);
        }
        x.text(1);
        Scenes.text(x, 0, "1-s");
        Scenes.text(x, 1, "o");
        x.feed('p', 1);
        x.check();
        x.tell(9);
        x.seed(6);
        x.ticks(9);
    }

    private static void tell() {
        sentence("36 tell: FULL: 24 wait");
        BlinkMoves x = new BlinkMoves();
        int[] any = {MIN, LOW - 1, -1, 0, 1, MAX};
        for (int i = 1; i <= 24; i++) {
            due(x.tell(any[i % 6]), i);
        }
        due(x.tell(0), FULL);
        due(x.count(5), 24);
        due(x.told(4), 1);
        due(Scenes.waiting(23).get().tell(5), 24);
        for (int v : any) {
            refused(Scenes.waiting(24), FULL, y -> y.tell(v));
        }
        due(x.check(), 1);
        due(x.tell(0), 1);
    }

    private static void check() {
        sentence("37 check: The numbers that wait (none do then)");
        for (int n : new int[] {0, 1, 6, 7, 24}) {
            BlinkMoves x = Scenes.waiting(n).get();
            due(x.count(5), n);
            due(x.check(), n <= 6 ? 0 : 7);
            due(x.count(5), 0);
            due(x.check(), 0);
        }
        sentence("37 check: else 1 and the place (from 0) of the first that isn't so");
        for (int place = 0; place < 6; place++) {
            for (int more : new int[] {-1, 1, 256, MIN}) {
                BlinkMoves x = Scenes.full();
                x.check();
                for (int d = 0; d < 6; d++) {
                    x.tell(x.doingIs(d, 1) + (d == place ? more : 0));
                }
                due(x.check(), 1 + place);
                due(x.count(5), 0);
            }
        }
        sentence("37 check: (or for which there is no DOING)");
        for (int doings = 0; doings <= 6; doings++) {
            BlinkMoves x = seers(1, 0);
            for (int d = 0; d < doings; d++) {
                x.doing(0, 0, 0);
                x.tell(0);
            }
            due(x.check(), 0);
            for (int d = 0; d < doings - 1; d++) {
                x.tell(0);
            }
            due(x.check(), 0);
            for (int d = 0; d <= doings; d++) {
                x.tell(0);
            }
            due(x.check(), 1 + doings);
        }
    }

    private static void count() {
        sentence("38 count: BEYOND");
        range(Scenes::full, 0, 7, (y, v) -> y.count(v));
        range(BlinkMoves::new, 0, 7, (y, v) -> y.count(v));
        sentence("38 count: what is full");
        BlinkMoves x = new BlinkMoves();
        for (int i = 0; i < 7; i++) {
            x.person(0, 1, 0);
        }
        for (int i = 0; i < 7; i++) {
            x.doing(0, 99, 0);
        }
        x.tick(99999);
        for (int i = 0; i < 61; i++) {
            x.feed(0L, 1);
        }
        for (int i = 0; i < 25; i++) {
            x.tell(0);
        }
        x.become(5, 49);
        x.voice(5, 2, 0);
        int[] want = {6, 6, 99999, 594, 60, 24, 6};
        for (int what = 0; what < 7; what++) {
            due(x.count(what), want[what]);
        }
        due(x.told(4), 4);
        sentence("38 count: 7 z (any number)");
        for (int v : new int[] {MIN, BEYOND, PARTED, LOW, -1, 0, MAX}) {
            x.seed(v);
            due(x.count(7), v);
        }
        due(x.told(1), 0);
        due(x.told(6), 0);
    }

    private static void told() {
        sentence("39 told: (k 1 .. 6); BEYOND: another k (counted, too)");
        range(Scenes::full, 1, 6, (y, v) -> y.told(v));
        range(BlinkMoves::new, 1, 6, (y, v) -> y.told(v));
        BlinkMoves x = new BlinkMoves();
        int counted = 0;
        for (int k : new int[] {0, 7, -1, MIN, MAX, LOW, BEYOND}) {
            due(x.told(k), BEYOND);
            counted++;
            due(x.told(1), counted);
        }
        sentence("39 told: How many acts have answered an ERROR LOW - k");
        for (int i = 0; i < 200; i++) {
            due(x.body(0), NONE);
        }
        due(x.told(2), 200);
        due(x.told(1), 7);
        for (int k = 3; k <= 6; k++) {
            due(x.told(k), 0);
        }
    }
}
