/**
 * An island on which all blink at once: people with beats and phases, doings that get on while
 * nobody who is not to see looks, and what would come of it. The promises are in DOC.md.
 *
 * Every row is made with the object and used again, since all calls share one small room.
 */
public final class BlinkMoves {
    private static final int LOW = -1000000000;
    private static final int BEYOND = LOW - 1;
    private static final int NONE = LOW - 2;
    private static final int STATE = LOW - 3;
    private static final int FULL = LOW - 4;
    private static final int KIND = LOW - 5;
    private static final int PARTED = LOW - 6;
    private static final int ERROR_SORTS = 6;

    private static final int SEER = 0;
    private static final int BANKER = 1;
    private static final int DEAF = 2;
    private static final int GOVERNOR = 3;
    private static final int LOVER = 4;
    private static final int GREY = 5;
    private static final int CHILD = 6;
    private static final int KINDS = 7;
    private static final int[] KIND_ABOVE = {-1, SEER, SEER, SEER, BANKER, DEAF, SEER};

    private static final int PEOPLE_MOST = 6;
    private static final int DOINGS_MOST = 6;
    private static final int BEAT_MOST = 12;
    private static final int PARTS_MOST = 99;
    private static final int TICK_MOST = 99999;
    private static final int TAPE_MOST = 60;
    private static final int WAITING_MOST = 24;
    private static final int TRACE_MOST = 30;
    private static final int SHEETS = 4;
    private static final int SHEET_MOST = 24;

    private static final int SHUT_USE = 0;
    private static final int GETS_ON_USE = 1;
    private static final int SHUT_HIGHEST = 1;
    private static final int GETS_ON_HIGHEST = 9;
    private static final char[] NAMES = {'r', 's', 't', 'p', 'o', 'l'};
    private static final int NAMES_PER_USE = 3;
    private static final int DIGITS_MOST = 4;
    private static final int OPEN_MOST = 5;

    private static final int TICKS_MOST = 200;
    private static final int LOOSE_MOST = 30;
    private static final int MOMENT_MOST = 400;
    private static final int NEXT_MOST = 99;

    private final Island island = new Island();
    private final Reader reader = new Reader(island.tape);
    private final Foresight foresight = new Foresight(island);
    private final Voices voices = new Voices();
    private final Sheet[] sheets = new Sheet[SHEETS];
    private final int[] errorsTold = new int[ERROR_SORTS + 1];
    private Island imageKept;
    private int imagesDone;

    public BlinkMoves() {
        for (int i = 0; i < SHEETS; i++) {
            sheets[i] = new Sheet();
        }
    }

    // ---- people, doings

    public int person(int km, int beat, int phase) {
        if (!isKindAndNumber(km) || !isBeatAndPhase(beat, phase)) {
            return fail(BEYOND);
        }
        if (island.peopleCount >= PEOPLE_MOST) {
            return fail(FULL);
        }
        int number = island.peopleCount;
        Person one = island.people[number];
        one.turnInto(km);
        one.beat = beat;
        one.phase = phase;
        island.peopleCount++;
        return number;
    }

    public int personIs(int person, int what) {
        if (!island.hasPerson(person) || !within(what, 0, 4)) {
            return fail(BEYOND);
        }
        Person one = island.people[person];
        switch (what) {
            case 0:
                return one.kind;
            case 1:
                return one.m;
            case 2:
                return one.beat;
            case 3:
                return one.phase;
            default:
                return island.isShut(person, island.now) ? 1 : 0;
        }
    }

    public int become(int person, int km) {
        if (!island.hasPerson(person) || !isKindAndNumber(km)) {
            return fail(BEYOND);
        }
        Person one = island.people[person];
        int kindBefore = one.kind;
        one.turnInto(km);
        return kindBefore;
    }

    public int as(int person, int kind) {
        if (!island.hasPerson(person) || !within(kind, 0, KINDS - 1)) {
            return fail(BEYOND);
        }
        Person one = island.people[person];
        if (!isUnder(one.kind, kind)) {
            return fail(KIND);
        }
        return one.m;
    }

    public int beats(int person, int beat, int phase) {
        if (!island.hasPerson(person) || !isBeatAndPhase(beat, phase)) {
            return fail(BEYOND);
        }
        Person one = island.people[person];
        int beatBefore = one.beat;
        one.beat = beat;
        one.phase = phase;
        return beatBefore;
    }

    public int doing(int person, int parts, int watchers) {
        if (!island.hasPerson(person) || !isParts(parts) || !island.hasSet(watchers)
                || holds(watchers, person)) {
            return fail(BEYOND);
        }
        if (island.doingsCount >= DOINGS_MOST) {
            return fail(FULL);
        }
        int number = island.doingsCount;
        Doing act = island.doings[number];
        act.who = person;
        act.parts = parts;
        act.watchers = watchers;
        island.doingsCount++;
        return number;
    }

    public int doingIs(int doing, int what) {
        if (!island.hasDoing(doing) || !within(what, 0, 3)) {
            return fail(BEYOND);
        }
        Doing act = island.doings[doing];
        switch (what) {
            case 0:
                return act.who;
            case 1:
                return act.parts;
            case 2:
                return act.watchers;
            default:
                return island.getsOnBy(act, act.parts, island.shutSet(island.now));
        }
    }

    public int sets(int doing, int parts) {
        if (!island.hasDoing(doing) || !isParts(parts)) {
            return fail(BEYOND);
        }
        Doing act = island.doings[doing];
        int partsBefore = act.parts;
        act.parts = parts;
        return partsBefore;
    }

    public int shut() {
        return island.shutSet(island.now);
    }

    // ---- texts

    public int feed(long word, int n) {
        if (!within(n, 1, 8)) {
            return fail(BEYOND);
        }
        if (island.tape.size() + n > TAPE_MOST) {
            return fail(FULL);
        }
        for (int i = 0; i < n; i++) {
            island.tape.add((int) ((word >>> (8 * i)) & 255L));
        }
        return island.tape.size();
    }

    public int text(int use) {
        if (!isUse(use)) {
            return fail(BEYOND);
        }
        boolean whole = reader.reads(use);
        island.tape.clear();
        if (!whole) {
            return -10 - reader.fault();
        }
        island.lawOf(use).give(reader.code);
        return 1;
    }

    public int untell(int use) {
        if (!isUse(use)) {
            return fail(BEYOND);
        }
        Law gone = island.lawOf(use);
        int was = gone.given ? 1 : 0;
        gone.given = false;
        return was;
    }

    public int law(int use, int a, int b, int c) {
        if (!isUse(use)) {
            return fail(BEYOND);
        }
        return island.lawOf(use).gives(a, b, c);
    }

    // ---- ticks

    public int ticks(int n) {
        if (!within(n, 1, TICKS_MOST)) {
            return fail(BEYOND);
        }
        if (island.now + n > TICK_MOST) {
            return fail(STATE);
        }
        int ended = 0;
        for (int i = 0; i < n; i++) {
            ended += island.goBy();
        }
        return ended;
    }

    public int loose(int n) {
        if (!within(n, 1, LOOSE_MOST)) {
            return fail(BEYOND);
        }
        if (island.now + n > TICK_MOST) {
            return fail(STATE);
        }
        int ended = 0;
        for (int i = 0; i < n; i++) {
            island.drawPhase();
            ended += island.goBy();
        }
        return ended;
    }

    public int tick(int v) {
        if (!within(v, 0, TICK_MOST)) {
            return fail(BEYOND);
        }
        int before = island.now;
        island.now = v;
        return before;
    }

    public int seed(int v) {
        int before = island.z;
        island.z = v;
        return before;
    }

    // ---- what would be

    public int then(int doing, int n) {
        if (!island.hasDoing(doing) || !within(n, 0, TICKS_MOST)) {
            return fail(BEYOND);
        }
        return foresight.partsBehind(island.doings[doing], n);
    }

    public int soonest(int doing) {
        if (!island.hasDoing(doing)) {
            return fail(BEYOND);
        }
        int behind = foresight.soonestDone(island.doings[doing]);
        return behind < 0 ? fail(NONE) : behind;
    }

    public int moment(int set) {
        if (!island.hasSet(set)) {
            return fail(BEYOND);
        }
        int behind = foresight.firstMoment(set);
        return behind < 0 ? fail(NONE) : behind;
    }

    public int moments(int set, int n) {
        if (!island.hasSet(set) || !within(n, 0, NEXT_MOST)) {
            return fail(BEYOND);
        }
        return foresight.momentsAmong(set, n);
    }

    public int away(int doing, int n, int what) {
        if (!island.hasDoing(doing) || !within(n, 0, NEXT_MOST) || !within(what, 0, 1)) {
            return fail(BEYOND);
        }
        int gone = foresight.fewestAway(island.doings[doing], n);
        if (gone < 0) {
            return fail(NONE);
        }
        return what == 0 ? Integer.bitCount(gone) : gone;
    }

    public int phaseFor(int person, int doing, int what) {
        if (!island.hasPerson(person) || !island.hasDoing(doing) || !within(what, 0, 1)) {
            return fail(BEYOND);
        }
        if (!foresight.findPhase(person, island.doings[doing])) {
            return fail(NONE);
        }
        return what == 0 ? foresight.bestPhase : foresight.bestBehind;
    }

    public int odds(int set, int n, int part) {
        if (!island.hasSet(set) || !within(n, 1, NEXT_MOST) || !within(part, 0, 1)) {
            return fail(BEYOND);
        }
        int hits = foresight.momentsAmong(set, n);
        int common = commonDivisor(n, hits);
        int whole = part == 0 ? hits : n;
        return common > 0 ? whole / common : whole;
    }

    public int fits(int sheet, int person, int what) {
        if (!isSheet(sheet) || !island.hasPerson(person) || !within(what, 0, 1)) {
            return fail(BEYOND);
        }
        if (sheets[sheet].isMissing()) {
            return fail(NONE);
        }
        foresight.findFits(person, sheets[sheet].numbers);
        if (what == 0) {
            return foresight.fitsFound;
        }
        return foresight.fitsFound == 0 ? fail(NONE) : foresight.firstFit;
    }

    // ---- voices, sheets, images, what is told

    public int voice(int person, int voice, int x) {
        if (!island.hasPerson(person) || !within(voice, 0, 3)) {
            return fail(BEYOND);
        }
        int said = voices.say(island.people[person], person, voice, x);
        if (voices.parted) {
            return fail(PARTED);
        }
        return said;
    }

    public int body(int i) {
        if (!within(i, 0, voices.trace.size() - 1)) {
            return fail(NONE);
        }
        return voices.trace.at(i);
    }

    public int sheet(int sheet, int bits, int n) {
        if (!isSheet(sheet) || (bits != 0 && bits != 8 && bits != 16 && bits != 32)) {
            return fail(BEYOND);
        }
        if (bits != 0 && n < 0) {
            return fail(STATE);
        }
        if (bits != 0 && n > SHEET_MOST) {
            return fail(BEYOND);
        }
        sheets[sheet].renew(bits, bits == 0 ? 0 : n);
        return 1;
    }

    public int put(int sheet, int i, int v) {
        if (!isSheet(sheet)) {
            return fail(BEYOND);
        }
        Sheet row = sheets[sheet];
        if (row.isMissing()) {
            return fail(NONE);
        }
        if (!within(i, 0, row.numbers.size() - 1)) {
            return fail(BEYOND);
        }
        row.numbers.change(i, row.lowestBits(v));
        return 1;
    }

    public int move(int sheet, int i, int other, int j, int n) {
        if (!isSheet(sheet) || !isSheet(other)) {
            return fail(BEYOND);
        }
        Sheet from = sheets[sheet];
        Sheet to = sheets[other];
        if (from.isMissing() || to.isMissing()) {
            return fail(NONE);
        }
        if (from.bits != to.bits) {
            return fail(KIND);
        }
        if (!from.numbers.spans(i, n) || !to.numbers.spans(j, n)) {
            return fail(BEYOND);
        }
        to.numbers.takeFrom(from.numbers, i, j, n);
        return n;
    }

    public int partsAll(int sheet) {
        if (!isSheet(sheet)) {
            return fail(BEYOND);
        }
        if (sheets[sheet].isMissing()) {
            return fail(NONE);
        }
        Row numbers = sheets[sheet].numbers;
        int done = 0;
        while (done < numbers.size() && island.hasDoing(done) && isParts(numbers.at(done))) {
            island.doings[done].parts = numbers.at(done);
            done++;
        }
        return done;
    }

    public int judge(int sheet) {
        if (!isSheet(sheet)) {
            return fail(BEYOND);
        }
        if (sheets[sheet].isMissing()) {
            return fail(NONE);
        }
        Row numbers = sheets[sheet].numbers;
        int right = 0;
        while (right < numbers.size()
                && numbers.at(right) == island.shutSet(island.now + right)) {
            right++;
        }
        return right;
    }

    public int image() {
        if (imageKept == null) {
            imageKept = new Island();
        }
        imageKept.beLike(island);
        imagesDone++;
        return imagesDone;
    }

    public int restore() {
        if (imageKept == null) {
            return fail(NONE);
        }
        island.beLike(imageKept);
        return island.now;
    }

    public int tell(int v) {
        if (!island.waiting.add(v)) {
            return fail(FULL);
        }
        return island.waiting.size();
    }

    public int check() {
        Row numbers = island.waiting;
        int right = 0;
        while (right < numbers.size() && island.hasDoing(right)
                && numbers.at(right) == island.doings[right].parts) {
            right++;
        }
        boolean allRight = right == numbers.size();
        numbers.clear();
        return allRight ? 0 : 1 + right;
    }

    public int count(int what) {
        switch (what) {
            case 0:
                return island.peopleCount;
            case 1:
                return island.doingsCount;
            case 2:
                return island.now;
            case 3:
                return island.partsTogether();
            case 4:
                return island.tape.size();
            case 5:
                return island.waiting.size();
            case 6:
                return voices.trace.size();
            case 7:
                return island.z;
            default:
                return fail(BEYOND);
        }
    }

    public int told(int k) {
        if (!within(k, 1, ERROR_SORTS)) {
            return fail(BEYOND);
        }
        return errorsTold[k];
    }

    // ---- what the acts ask

    private int fail(int error) {
        int sort = LOW - error;
        if (within(sort, 1, ERROR_SORTS)) {
            errorsTold[sort]++;
        }
        return error;
    }

    private static boolean within(int v, int least, int most) {
        return v >= least && v <= most;
    }

    private static boolean isKindAndNumber(int km) {
        return within(km, 0, 10 * KINDS - 1);
    }

    private static boolean isBeatAndPhase(int beat, int phase) {
        return within(beat, 1, BEAT_MOST) && within(phase, 0, beat - 1);
    }

    private static boolean isParts(int parts) {
        return within(parts, 0, PARTS_MOST);
    }

    private static boolean isUse(int use) {
        return use == SHUT_USE || use == GETS_ON_USE;
    }

    private static boolean isSheet(int sheet) {
        return within(sheet, 0, SHEETS - 1);
    }

    private static boolean holds(int set, int person) {
        return ((set >> person) & 1) == 1;
    }

    private static boolean isUnder(int kind, int above) {
        int at = kind;
        for (int i = 0; i < KINDS && at != above && within(at, 0, KINDS - 1); i++) {
            at = KIND_ABOVE[at];
        }
        return at == above;
    }

    private static int rest(int t, int beat, int phase) {
        return beat > 0 ? (t + phase) % beat : 0;
    }

    private static int commonDivisor(int a, int b) {
        int high = a;
        int low = b;
        for (int i = 0; i < NEXT_MOST && low > 0; i++) {
            int left = high % low;
            high = low;
            low = left;
        }
        return high;
    }

    /** Numbers in a row that never outgrows the length it was made with. */
    private static final class Row {
        private final int[] cells;
        private int filled;

        Row(int most) {
            cells = new int[Math.max(0, most)];
        }

        int size() {
            return filled;
        }

        int at(int i) {
            return i >= 0 && i < filled ? cells[i] : 0;
        }

        boolean add(int v) {
            if (filled >= cells.length) {
                return false;
            }
            cells[filled] = v;
            filled++;
            return true;
        }

        void change(int i, int v) {
            if (i >= 0 && i < filled) {
                cells[i] = v;
            }
        }

        void clear() {
            filled = 0;
        }

        void beZeros(int n) {
            clear();
            for (int i = 0; i < n; i++) {
                add(0);
            }
        }

        /** Asked without adding i and n, which could wrap. */
        boolean spans(int i, int n) {
            return i >= 0 && n >= 0 && i <= filled && n <= filled - i;
        }

        void takeFrom(Row other, int i, int j, int n) {
            if (other.spans(i, n) && spans(j, n)) {
                System.arraycopy(other.cells, i, cells, j, n);
            }
        }

        void beLike(Row other) {
            beZeros(other.filled);
            takeFrom(other, 0, 0, other.filled);
        }
    }

    private static final class Sheet {
        private final Row numbers = new Row(SHEET_MOST);
        private int bits;

        boolean isMissing() {
            return bits == 0;
        }

        void renew(int newBits, int n) {
            bits = newBits;
            numbers.beZeros(n);
        }

        int lowestBits(int v) {
            switch (bits) {
                case 8:
                    return v & 0xFF;
                case 16:
                    return v & 0xFFFF;
                default:
                    return v;
            }
        }
    }

    private static final class Person {
        private int kind;
        private int m;
        private int beat = 1;
        private int phase;

        void turnInto(int km) {
            kind = km / 10;
            m = km % 10;
        }

        void beLike(Person other) {
            kind = other.kind;
            m = other.m;
            beat = other.beat;
            phase = other.phase;
        }

        boolean blinks(int t, int rest) {
            switch (kind) {
                case DEAF:
                    return deafBlinks(t, rest);
                case GOVERNOR:
                    return rest < 2;
                case LOVER:
                    return rest == 0 || t % 12 == m;
                case GREY:
                    return deafBlinks(t, rest) && m > 6;
                case CHILD:
                    return rest == 0 || t % 7 == m % 7;
                default:
                    return rest == 0;
            }
        }

        private boolean deafBlinks(int t, int rest) {
            return rest == 0 && t % 3 != m % 3;
        }

        int tries(int doingsCount) {
            switch (kind) {
                case BANKER:
                    return bankerTries();
                case GOVERNOR:
                    return 1 + doingsCount;
                case LOVER:
                    return 2 * bankerTries();
                case GREY:
                    return 4;
                case CHILD:
                    return 0;
                default:
                    return 1;
            }
        }

        private int bankerTries() {
            return 2 + m / 5;
        }
    }

    private static final class Doing {
        private int who;
        private int parts;
        private int watchers;

        void beLike(Doing other) {
            who = other.who;
            parts = other.parts;
            watchers = other.watchers;
        }
    }

    /** What a USE gives; its TEXT is kept as tokens in the order in which they are worked out. */
    private static final class Law {
        private final int use;
        private final Row code = new Row(TAPE_MOST);
        private final int[] stack = new int[TAPE_MOST];
        private boolean given;

        Law(int ofUse) {
            use = ofUse;
        }

        void give(Row newCode) {
            code.beLike(newCode);
            given = true;
        }

        void beLike(Law other) {
            code.beLike(other.code);
            given = other.given;
        }

        int gives(int a, int b, int c) {
            if (use == SHUT_USE) {
                return held(given ? worked(a, b, c) : b, SHUT_HIGHEST);
            }
            return held(given ? worked(a, b, c) : a, GETS_ON_HIGHEST);
        }

        private static int held(int v, int highest) {
            return Math.max(0, Math.min(highest, v));
        }

        private int worked(int a, int b, int c) {
            int top = 0;
            for (int i = 0; i < code.size(); i++) {
                int token = code.at(i);
                if (token == -'!' && top >= 1) {
                    stack[top - 1] = stack[top - 1] == 0 ? 1 : 0;
                } else if (token < -NAMES_PER_USE && top >= 2) {
                    top--;
                    stack[top - 1] = joined(-token, stack[top - 1], stack[top]);
                } else if (top < stack.length) {
                    stack[top] = token >= 0 ? token : named(token, a, b, c);
                    top++;
                }
            }
            return top > 0 ? stack[0] : 0;
        }

        private static int named(int token, int a, int b, int c) {
            if (token == -1) {
                return a;
            }
            return token == -2 ? b : c;
        }

        private static int joined(int sign, int left, int right) {
            switch (sign) {
                case '|':
                    return left != 0 || right != 0 ? 1 : 0;
                case '&':
                    return left != 0 && right != 0 ? 1 : 0;
                case '<':
                    return left < right ? 1 : 0;
                case '=':
                    return left == right ? 1 : 0;
                case '>':
                    return left > right ? 1 : 0;
                case '+':
                    return left + right;
                case '-':
                    return left - right;
                case '*':
                    return left * right;
                case '/':
                    return right == 0 ? 0 : left / right;
                default:
                    return right == 0 ? 0 : left % right;
            }
        }
    }

    /**
     * Reads a TEXT from THE TAPE. Tokens: a number as it is, the names as -1, -2, -3, a sign as
     * the negative of its byte. No step goes past a byte that does not fit, so that place is the
     * FAULT.
     */
    private static final class Reader {
        private final Row tape;
        private final Row code = new Row(TAPE_MOST);
        private int use;
        private int place;

        Reader(Row theTape) {
            tape = theTape;
        }

        boolean reads(int ofUse) {
            use = ofUse;
            place = 0;
            code.clear();
            return readsAny(0) && place == tape.size();
        }

        int fault() {
            return place;
        }

        private int next() {
            return place < tape.size() ? tape.at(place) : -1;
        }

        private boolean takes(int sign) {
            if (next() != sign) {
                return false;
            }
            place++;
            return true;
        }

        private boolean readsAny(int open) {
            boolean fine = readsAll(open);
            for (int i = 0; i < TAPE_MOST && fine && takes('|'); i++) {
                fine = readsAll(open);
                code.add(-'|');
            }
            return fine;
        }

        private boolean readsAll(int open) {
            boolean fine = readsComparison(open);
            for (int i = 0; i < TAPE_MOST && fine && takes('&'); i++) {
                fine = readsComparison(open);
                code.add(-'&');
            }
            return fine;
        }

        private boolean readsComparison(int open) {
            if (!readsSum(open)) {
                return false;
            }
            int sign = next();
            if (sign != '<' && sign != '=' && sign != '>') {
                return true;
            }
            place++;
            if (!readsSum(open)) {
                return false;
            }
            code.add(-sign);
            return true;
        }

        private boolean readsSum(int open) {
            boolean fine = readsProduct(open);
            for (int i = 0; i < TAPE_MOST && fine; i++) {
                int sign = next();
                if (sign != '+' && sign != '-') {
                    return true;
                }
                place++;
                fine = readsProduct(open);
                code.add(-sign);
            }
            return fine;
        }

        private boolean readsProduct(int open) {
            boolean fine = readsFactor(open);
            for (int i = 0; i < TAPE_MOST && fine; i++) {
                int sign = next();
                if (sign != '*' && sign != '/' && sign != '%') {
                    return true;
                }
                place++;
                fine = readsFactor(open);
                code.add(-sign);
            }
            return fine;
        }

        private boolean readsFactor(int open) {
            int first = next();
            if (isDigit(first)) {
                readNumber();
                return true;
            }
            int name = nameOf(first);
            if (name > 0) {
                place++;
                code.add(-name);
                return true;
            }
            if (open >= OPEN_MOST) {
                return false;
            }
            if (takes('!')) {
                boolean fine = readsFactor(open + 1);
                code.add(-'!');
                return fine;
            }
            return takes('(') && readsAny(open + 1) && takes(')');
        }

        private void readNumber() {
            int value = 0;
            for (int i = 0; i < DIGITS_MOST && isDigit(next()); i++) {
                value = value * 10 + next() - '0';
                place++;
            }
            code.add(value);
        }

        private static boolean isDigit(int sign) {
            return sign >= '0' && sign <= '9';
        }

        /** 1, 2, 3 for the names of this use; 0 if it is none of them. */
        private int nameOf(int sign) {
            for (int i = 0; i < NAMES_PER_USE; i++) {
                int at = use * NAMES_PER_USE + i;
                if (at >= 0 && at < NAMES.length && NAMES[at] == sign) {
                    return i + 1;
                }
            }
            return 0;
        }
    }

    /** All that an IMAGE keeps. */
    private static final class Island {
        private final Person[] people = new Person[PEOPLE_MOST];
        private final Doing[] doings = new Doing[DOINGS_MOST];
        private final Law shutLaw = new Law(SHUT_USE);
        private final Law getsOnLaw = new Law(GETS_ON_USE);
        private final Row tape = new Row(TAPE_MOST);
        private final Row waiting = new Row(WAITING_MOST);
        private int peopleCount;
        private int doingsCount;
        private int now;
        private int z = 1;

        Island() {
            for (int i = 0; i < PEOPLE_MOST; i++) {
                people[i] = new Person();
            }
            for (int i = 0; i < DOINGS_MOST; i++) {
                doings[i] = new Doing();
            }
        }

        void beLike(Island other) {
            for (int i = 0; i < PEOPLE_MOST; i++) {
                people[i].beLike(other.people[i]);
            }
            for (int i = 0; i < DOINGS_MOST; i++) {
                doings[i].beLike(other.doings[i]);
            }
            shutLaw.beLike(other.shutLaw);
            getsOnLaw.beLike(other.getsOnLaw);
            tape.beLike(other.tape);
            waiting.beLike(other.waiting);
            peopleCount = other.peopleCount;
            doingsCount = other.doingsCount;
            now = other.now;
            z = other.z;
        }

        boolean hasPerson(int person) {
            return within(person, 0, peopleCount - 1);
        }

        boolean hasDoing(int doing) {
            return within(doing, 0, doingsCount - 1);
        }

        boolean hasSet(int set) {
            return within(set, 0, (1 << peopleCount) - 1);
        }

        Law lawOf(int use) {
            return use == SHUT_USE ? shutLaw : getsOnLaw;
        }

        /** Beat and phase are told apart from the person, so that others can be tried in thought. */
        boolean isShutBy(int person, int t, int beat, int phase) {
            if (!hasPerson(person)) {
                return false;
            }
            int rest = rest(t, beat, phase);
            int s = people[person].blinks(t, rest) ? 1 : 0;
            return shutLaw.gives(rest, s, t % 24) == 1;
        }

        boolean isShut(int person, int t) {
            return hasPerson(person)
                    && isShutBy(person, t, people[person].beat, people[person].phase);
        }

        int shutSet(int t) {
            int set = 0;
            for (int i = 0; i < peopleCount; i++) {
                if (isShutBy(i, t, people[i].beat, people[i].phase)) {
                    set |= 1 << i;
                }
            }
            return set;
        }

        boolean isMoment(int set, int t) {
            for (int i = 0; i < peopleCount; i++) {
                if (holds(set, i) && !isShut(i, t)) {
                    return false;
                }
            }
            return true;
        }

        int getsOnBy(Doing act, int left, int shutNow) {
            int tries = hasPerson(act.who) ? people[act.who].tries(doingsCount) : 0;
            int others = Integer.bitCount(shutNow & ~(1 << act.who));
            return getsOnLaw.gives(tries, others, left);
        }

        int leftBehindTick(Doing act, int left, int watchers, int shutNow) {
            if (left == 0 || (watchers & ~shutNow) != 0) {
                return left;
            }
            return Math.max(0, left - getsOnBy(act, left, shutNow));
        }

        /** One TICK; answers how many doings came to their end in it. */
        int goBy() {
            int shutNow = shutSet(now);
            int ended = 0;
            for (int i = 0; i < doingsCount; i++) {
                Doing act = doings[i];
                int left = leftBehindTick(act, act.parts, act.watchers, shutNow);
                if (left == 0 && act.parts > 0) {
                    ended++;
                }
                act.parts = left;
            }
            now++;
            return ended;
        }

        private int draw() {
            z = z * 1103515245 + 12345;
            return z >>> 8;
        }

        void drawPhase() {
            if (peopleCount == 0 || draw() % 4 != 0) {
                return;
            }
            int who = draw() % peopleCount;
            int drawn = draw();
            if (hasPerson(who)) {
                people[who].phase = rest(drawn, people[who].beat, 0);
            }
        }

        int partsTogether() {
            int sum = 0;
            for (int i = 0; i < doingsCount; i++) {
                sum += doings[i].parts;
            }
            return sum;
        }
    }

    /** What would be: looks at TICKS ahead and changes nothing on the island. */
    private static final class Foresight {
        private final Island island;
        private final int[] shutAhead = new int[NEXT_MOST];
        private int bestPhase;
        private int bestBehind;
        private int fitsFound;
        private int firstFit;

        Foresight(Island theIsland) {
            island = theIsland;
        }

        int partsBehind(Doing act, int n) {
            int left = act.parts;
            for (int i = 0; i < n && left > 0; i++) {
                int shutThen = island.shutSet(island.now + i);
                left = island.leftBehindTick(act, left, act.watchers, shutThen);
            }
            return left;
        }

        int soonestDone(Doing act) {
            int left = act.parts;
            for (int i = 0; i < TICKS_MOST && left > 0; i++) {
                int shutThen = island.shutSet(island.now + i);
                left = island.leftBehindTick(act, left, act.watchers, shutThen);
                if (left == 0) {
                    return i + 1;
                }
            }
            return left == 0 ? 0 : -1;
        }

        /** Many tries look at the same TICKS, so who is SHUT at each is worked out once. */
        private void lookAhead(int n) {
            for (int i = 0; i < n && i < NEXT_MOST; i++) {
                shutAhead[i] = island.shutSet(island.now + i);
            }
        }

        /** Behind how many of the TICKS looked at nothing is left; -1 if something still is. */
        private int doneBehind(Doing act, int watchers, int most) {
            int left = act.parts;
            for (int i = 0; i < most && i < NEXT_MOST && left > 0; i++) {
                left = island.leftBehindTick(act, left, watchers, shutAhead[i]);
                if (left == 0) {
                    return i + 1;
                }
            }
            return left == 0 ? 0 : -1;
        }

        int firstMoment(int set) {
            for (int i = 0; i <= MOMENT_MOST; i++) {
                if (island.isMoment(set, island.now + i)) {
                    return i;
                }
            }
            return -1;
        }

        int momentsAmong(int set, int n) {
            int found = 0;
            for (int i = 0; i < n; i++) {
                if (island.isMoment(set, island.now + i)) {
                    found++;
                }
            }
            return found;
        }

        /** The set that is to look away, or -1. Going up by bits, so the least of a size is first. */
        int fewestAway(Doing act, int n) {
            lookAhead(n);
            int best = -1;
            for (int gone = 0; gone <= act.watchers; gone++) {
                boolean fewer = best < 0 || Integer.bitCount(gone) < Integer.bitCount(best);
                if ((gone & ~act.watchers) == 0 && fewer
                        && doneBehind(act, act.watchers & ~gone, n) >= 0) {
                    best = gone;
                }
            }
            return best;
        }

        boolean findPhase(int person, Doing act) {
            boolean found = false;
            int beat = island.hasPerson(person) ? island.people[person].beat : 0;
            lookAhead(NEXT_MOST);
            for (int phase = 0; phase < beat; phase++) {
                tryPhase(person, beat, phase);
                int behind = doneBehind(act, act.watchers, NEXT_MOST);
                if (behind >= 0 && (!found || behind < bestBehind)) {
                    found = true;
                    bestPhase = phase;
                    bestBehind = behind;
                }
            }
            return found;
        }

        private void tryPhase(int person, int beat, int phase) {
            int bit = 1 << person;
            for (int i = 0; i < NEXT_MOST; i++) {
                boolean shut = island.isShutBy(person, island.now + i, beat, phase);
                shutAhead[i] = shut ? shutAhead[i] | bit : shutAhead[i] & ~bit;
            }
        }

        void findFits(int person, Row numbers) {
            fitsFound = 0;
            firstFit = 0;
            for (int beat = 1; beat <= BEAT_MOST; beat++) {
                for (int phase = 0; phase < beat; phase++) {
                    if (isFit(person, beat, phase, numbers)) {
                        firstFit = fitsFound == 0 ? 100 * beat + phase : firstFit;
                        fitsFound++;
                    }
                }
            }
        }

        private boolean isFit(int person, int beat, int phase, Row numbers) {
            for (int i = 0; i < numbers.size(); i++) {
                int shut = island.isShutBy(person, island.now + i, beat, phase) ? 1 : 0;
                if (numbers.at(i) != shut) {
                    return false;
                }
            }
            return true;
        }
    }

    /**
     * The BODIES. "from" is the kind at which the way up to a body begins; "own" is the kind of
     * the one who speaks, at which every call without super begins anew. THE TRACE is of a voice
     * that answers PARTED, too: PARTED ends the voice, so no body begins behind it.
     */
    private static final class Voices {
        private final Row trace = new Row(TRACE_MOST);
        private boolean parted;
        private int own;
        private int k;
        private int m;

        int say(Person one, int number, int voice, int x) {
            trace.clear();
            parted = false;
            own = one.kind;
            k = number;
            m = one.m;
            switch (voice) {
                case 0:
                    return blinks(own, x);
                case 1:
                    return moves(own, x);
                case 2:
                    return looks(own, x);
                default:
                    return parts(own, x);
            }
        }

        private int blinks(int from, int x) {
            switch (from) {
                case CHILD:
                    trace.add(70);
                    return 9;
                case LOVER:
                    trace.add(50);
                    return blinks(BANKER, x) * 3;
                case BANKER:
                    trace.add(20);
                    return blinks(SEER, x) - 4;
                default:
                    trace.add(10);
                    return x + k;
            }
        }

        private int moves(int from, int x) {
            switch (from) {
                case CHILD:
                    trace.add(71);
                    return moves(SEER, x) + m;
                case GREY:
                    trace.add(60);
                    return moves(DEAF, x + 1);
                case DEAF:
                    trace.add(30);
                    return 0 - moves(SEER, x);
                default:
                    trace.add(11);
                    return blinks(own, x) * 2;
            }
        }

        private int looks(int from, int x) {
            switch (from) {
                case LOVER:
                    trace.add(51);
                    return looks(BANKER, x) ^ k;
                case GOVERNOR:
                    trace.add(40);
                    return looks(SEER, x / 2);
                default:
                    trace.add(12);
                    return moves(own, x) - m;
            }
        }

        private int parts(int from, int x) {
            if (from == BANKER || from == LOVER) {
                trace.add(21);
                int above = parts(SEER, x);
                return parted ? 0 : above + moves(own, 1);
            }
            trace.add(13);
            int divisor = m - k;
            parted = divisor == 0;
            return divisor == 0 ? 0 : x / divisor;
        }
    }
}
