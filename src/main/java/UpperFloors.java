/** Houses whose upper floors are let down at dusk; ../shared/DOC.md tells what each call promises. */
public final class UpperFloors {
    public static final int NONE = -1, BAD = -2, STATE = -3, FULL = -4;
    public static final long NO = -4611686018427387904L;

    private static final int NO_HOUSE = -5, NO_NUMBER = -7;
    private static final int NOTHING = -11, OUTSIDE = -12, UNLIKE = -13, BELOW = -14;
    private static final int FINE = 0;
    private static final int FAULT_FROM = -100;

    private static final int HOUSES = 7, TEXTS = 6, TAPE = 160, SHEETS = 4, CELLS = 40;
    private static final int MINUTES = 24, TOP = 9, CROWD = 20, MOST_TOLD = 99, MOST_MORE = 9;
    private static final int LAST_KIND = 5, AS_PEOPLE = 6;
    private static final int MISSING = -1, BYTES = 0, SHORTS = 1, INTS = 2;
    private static final int LAST_SEED = 99999, SEEDS = 20;
    private static final long LOT_TIMES = 48271L, LOT_MODULO = 2147483647L;
    private static final String FIRST_LAW = "weighs told + people * 5 ; holds 2 ; hits speed * people ;";

    private final House[] houses = new House[HOUSES];
    private final Law[] texts = new Law[TEXTS];
    private final Sheet[] sheets = new Sheet[SHEETS];
    private final int[] tape = new int[TAPE];
    private final Town now = new Town();
    private final Town kept = new Town();
    private final Dusk dusk = new Dusk();
    private final Reader reader = new Reader();
    private int textCount;
    private int tapeSize;
    private boolean keeps;

    public UpperFloors() {
        // Every row is filled here for good: no place of it is null later, and no call makes rows anew.
        for (int h = 0; h < HOUSES; h++) houses[h] = new House(0, 0, 0);
        for (int t = 0; t < TEXTS; t++) texts[t] = new Law();
        for (int s = 0; s < SHEETS; s++) sheets[s] = new Sheet();
        for (int i = 0; i < FIRST_LAW.length() && i < TAPE; i++) tape[i] = FIRST_LAW.charAt(i);
        reader.read(tape, FIRST_LAW.length(), texts[0]);
        textCount = 1;
    }

    // ---- the law

    public int count(int what) {
        switch (what) {
            case 0: return now.size;
            case 1: return now.chains();
            case 2: return now.crowd();
            case 3: return textCount;
            case 4: return now.law;
            case 5: return tapeSize;
            default: return BAD;
        }
    }

    public int feed(int n, int a, int b, int c, int d, int e) {
        if (!within(n, 1, 5)) return BAD;
        if (!isByte(a) || !isByte(b) || !isByte(c) || !isByte(d) || !isByte(e)) return BAD;
        if (tapeSize + n > TAPE) return FULL;
        put(a);
        if (n > 1) put(b);
        if (n > 2) put(c);
        if (n > 3) put(d);
        if (n > 4) put(e);
        return tapeSize;
    }

    public int text() {
        if (textCount >= TEXTS) return FULL;
        int fault = reader.read(tape, tapeSize, texts[textCount]);
        tapeSize = 0;
        if (fault >= 0) return FAULT_FROM - fault;
        textCount++;
        return textCount - 1;
    }

    public int force(int t) {
        if (!within(t, 0, textCount - 1)) return BAD;
        int was = now.law;
        now.law = t;
        return was;
    }

    public int asks(int part, int h, int minute) {
        if (!isHouse(h)) return NO_HOUSE;
        if (!within(part, 0, 2) || !within(minute, 0, MINUTES)) return NO_NUMBER;
        ready();
        return dusk.says(part, h, minute, 0);
    }

    // ---- houses, chains

    public int house(int kind, int told, int more) {
        return settle(kind, told, more);
    }

    public int set(int h, int what, int v) {
        if (!isHouse(h)) return NO_HOUSE;
        if (what == 0 && within(v, 0, TOP)) {
            int was = now.high[h];
            now.high[h] = v;
            return was;
        }
        if (what == 1 && within(v, 0, CROWD)) {
            int was = now.people[h];
            now.people[h] = v;
            return was;
        }
        return NO_NUMBER;
    }

    public int chain(int a, int b) {
        if (!isHouse(a) || !isHouse(b)) return NO_HOUSE;
        int was = now.partner[a];
        now.join(a, b);
        return was;
    }

    public int told(int h, int what) {
        if (!isHouse(h)) return NO_HOUSE;
        switch (what) {
            case 0: return now.high[h];
            case 1: return now.people[h];
            case 2: return now.partner[h];
            case 3: return houses[h].kind;
            case 4: return houses[h].told;
            case 5: return houses[h].more;
            default: return NO_NUMBER;
        }
    }

    // ---- a dusk

    public int of(int n, int h, int what) {
        if (!isSpan(n) || !isHouse(h)) return NO_HOUSE;
        if (!within(what, 0, 4)) return NO_NUMBER;
        ready();
        dusk.go(n);
        switch (what) {
            case 0: return dusk.town.high[h];
            case 1: return dusk.moves[h];
            case 2: return dusk.lastHit[h];
            case 3: return dusk.hits[h];
            default: return dusk.weighs(h, n);
        }
    }

    public int all(int n, int what) {
        if (!isSpan(n)) return NO_HOUSE;
        if (!within(what, 0, 3)) return NO_NUMBER;
        ready();
        dusk.go(n);
        switch (what) {
            case 0: return dusk.town.downBits();
            case 1: return dusk.hitsTogether();
            case 2: return dusk.town.highTogether();
            default: return dusk.stillBits();
        }
    }

    public int when(int h) {
        if (!isHouse(h)) return NO_HOUSE;
        ready();
        return dusk.firstDown(h);
    }

    public int first(int what) {
        if (!within(what, 0, 1)) return BAD;
        int best = NONE;
        int which = NONE;
        for (int h = 0; h < now.size; h++) {
            ready();
            int n = dusk.firstDown(h);
            boolean better = which == NONE || (what == 0 ? n < best : n > best);
            if (n != NONE && better) {
                best = n;
                which = h;
            }
        }
        return which;
    }

    // ---- what would bring them down

    public int bring(int h, int n) {
        if (!isHouse(h)) return NO_HOUSE;
        if (!isSpan(n)) return NO_NUMBER;
        for (int many = 0; many <= CROWD; many++) {
            ready();
            dusk.town.people[h] += many;
            dusk.go(n);
            if (dusk.town.isDown(h)) return many;
        }
        return NONE;
    }

    public int weight(int many, int n, int what) {
        if (!within(many, 0, CROWD) || !isSpan(n) || !within(what, 0, 1)) return BAD;
        int best = NONE;
        int which = NONE;
        for (int h = 0; h < now.size; h++) {
            ready();
            dusk.town.people[h] += many;
            dusk.go(n);
            int down = dusk.town.downCount();
            if (down > best) {
                best = down;
                which = h;
            }
        }
        return what == 0 ? which : best;
    }

    public int over(int n, int what) {
        if (!isSpan(n) || !within(what, 0, 1)) return BAD;
        ready();
        dusk.go(n);
        int best = dusk.town.downCount();
        int way = NONE;
        for (int from = 0; from < now.size; from++) {
            for (int to = 0; to < now.size; to++) {
                if (from == to || now.people[from] == 0) continue;
                ready();
                dusk.town.people[from]--;
                dusk.town.people[to]++;
                dusk.go(n);
                int down = dusk.town.downCount();
                if (down > best) {
                    best = down;
                    way = 10 * from + to;
                }
            }
        }
        return what == 0 ? way : best;
    }

    public int link(int n, int what) {
        if (!isSpan(n) || !within(what, 0, 1)) return BAD;
        ready();
        dusk.go(n);
        int best = dusk.town.downCount();
        int pair = NONE;
        for (int a = 0; a < now.size; a++) {
            for (int b = a + 1; b < now.size; b++) {
                ready();
                dusk.town.join(a, b);
                dusk.go(n);
                int down = dusk.town.downCount();
                if (down > best) {
                    best = down;
                    pair = 10 * a + b;
                }
            }
        }
        return what == 0 ? pair : best;
    }

    public int frees(int h, int n, int what) {
        if (!isHouse(h)) return NO_HOUSE;
        if (!isSpan(n) || !within(what, 0, 1)) return NO_NUMBER;
        int pair = NONE;
        int many = 0;
        ready();
        dusk.go(n);
        if (!dusk.town.isDown(h)) {
            for (int a = 0; a < now.size; a++) {
                if (!now.leads(a)) continue;
                ready();
                dusk.town.loosen(a);
                dusk.go(n);
                if (!dusk.town.isDown(h)) continue;
                if (many == 0) pair = 10 * a + now.partner[a];
                many++;
            }
        }
        return what == 0 ? pair : many;
    }

    public int hang(int h, int which, int what) {
        if (!isHouse(h) || !isHouse(which)) return NO_HOUSE;
        if (!within(what, 0, 1)) return NO_NUMBER;
        int best = NONE;
        int height = NONE;
        for (int high = 0; high <= TOP; high++) {
            ready();
            dusk.town.high[which] = high;
            int n = dusk.firstDown(h);
            if (n != NONE && (height == NONE || n <= best)) {
                best = n;
                height = high;
            }
        }
        return what == 0 ? height : best;
    }

    // ---- night and day

    public int night(int n) {
        if (!isSpan(n)) return BAD;
        ready();
        dusk.go(n);
        for (int h = 0; h < now.size; h++) now.high[h] = dusk.town.high[h];
        return now.downCount();
    }

    public int dawn(int far) {
        if (!within(far, 0, 9)) return BAD;
        int together = 0;
        for (int h = 0; h < now.size; h++) {
            int up = Math.min(TOP, now.high[h] + far) - now.high[h];
            now.high[h] += up;
            together += up;
        }
        return together;
    }

    // ---- told heights

    public int judge(int s, int n) {
        int refusal = tellingRefusal(s);
        if (refusal != FINE) return refusal;
        if (!isSpan(n)) return NO_NUMBER;
        ready();
        dusk.go(n);
        return sheets[s].firstOtherwise(dusk.town);
    }

    public int times(int s) {
        int refusal = tellingRefusal(s);
        if (refusal != FINE) return refusal;
        int bits = 0;
        ready();
        for (int n = 0; n <= MINUTES; n++) {
            if (sheets[s].firstOtherwise(dusk.town) == NONE) bits |= 1 << n;
            if (n < MINUTES) dusk.pass(n, 0);
        }
        return bits;
    }

    public int laws(int s, int n) {
        int refusal = tellingRefusal(s);
        if (refusal != FINE) return refusal;
        if (!isSpan(n)) return NO_NUMBER;
        int bits = 0;
        for (int t = 0; t < textCount; t++) {
            ready();
            dusk.law = texts[t];
            dusk.go(n);
            if (sheets[s].firstOtherwise(dusk.town) == NONE) bits |= 1 << t;
        }
        return bits;
    }

    public int thief(int s, int n, int h) {
        int refusal = tellingRefusal(s);
        if (refusal != FINE) return refusal;
        if (!isHouse(h)) return NO_HOUSE;
        if (!isSpan(n)) return NO_NUMBER;
        int bits = 0;
        for (int many = 0; many <= CROWD; many++) {
            ready();
            dusk.town.people[h] += many;
            dusk.go(n);
            if (sheets[s].firstOtherwise(dusk.town) == NONE) bits |= 1 << many;
        }
        return bits;
    }

    public int film(int s, int n) {
        if (!isSheet(s)) return BAD;
        if (!isSpan(n)) return NO_NUMBER;
        ready();
        dusk.go(n);
        sheets[s].renew(INTS, now.size);
        for (int h = 0; h < now.size; h++) sheets[s].write(h, dusk.town.high[h]);
        return now.size;
    }

    // ---- dusks by lot

    public int drawn(int seed, int n, int hundredth) {
        if (!isDraw(seed, n, hundredth)) return BAD;
        return drawnDown(seed, n, hundredth);
    }

    public long odds(int seed, int n, int hundredth, int part) {
        if (!isDraw(seed, n, hundredth) || !within(part, 0, 1)) return NO;
        int above = 0;
        for (int i = 0; i < SEEDS; i++) {
            if (drawnDown(seed + i, n, hundredth) == now.size) above++;
        }
        int common = 1;
        for (int by = 2; by <= SEEDS; by++) {
            if (above % by == 0 && SEEDS % by == 0) common = by;
        }
        return (part == 0 ? above : SEEDS) / common;
    }

    public int image() {
        kept.become(now);
        keeps = true;
        return now.size;
    }

    public int back() {
        if (!keeps) return STATE;
        now.become(kept);
        return now.size;
    }

    // ---- the host

    public int sheet(int s, int sort, int n) {
        if (!isSheet(s) || !within(sort, MISSING, INTS)) return BAD;
        if (sort == MISSING) {
            sheets[s].renew(MISSING, 0);
            return 1;
        }
        if (n > CELLS) return BAD;
        if (n < 0) return BELOW;
        sheets[s].renew(sort, n);
        return 1;
    }

    public int cell(int s, int i, int v) {
        if (!isSheet(s)) return BAD;
        if (sheets[s].sort == MISSING) return NOTHING;
        if (!sheets[s].has(i)) return OUTSIDE;
        sheets[s].write(i, v);
        return 1;
    }

    public int copy(int s, int i, int other, int j, int n) {
        if (!isSheet(s) || !isSheet(other)) return BAD;
        Sheet from = sheets[s];
        Sheet to = sheets[other];
        if (from.sort == MISSING || to.sort == MISSING) return NOTHING;
        if (from.sort != to.sort) return UNLIKE;
        if (i < 0 || j < 0 || n < 0) return OUTSIDE;
        // The rests stand alone on the right: i + n might wrap.
        if (n > from.size - i || n > to.size - j) return OUTSIDE;
        System.arraycopy(from.row, i, to.row, j, n);
        return n;
    }

    public int housesBy(int s, int sort, int at, int n) {
        if (!isSheet(s) || !within(sort, BYTES, INTS) || !within(n, 0, HOUSES)) return BAD;
        Sheet by = sheets[s];
        if (by.sort == MISSING) return NOTHING;
        if (by.sort != sort) return UNLIKE;
        int came = 0;
        for (int k = 0; k < n; k++) {
            // Three less than the size bounds the place ahead of the sum, which therefore can't wrap.
            if (at < 0 || at > by.size - 3 || at + 3 * k > by.size - 3) return OUTSIDE;
            int place = at + 3 * k;
            if (settle(by.row[place], by.row[place + 1], by.row[place + 2]) >= 0) came++;
        }
        return came;
    }

    public int taken(int i, int kind) {
        if (!within(kind, 0, AS_PEOPLE)) return BAD;
        if (!within(i, 0, 2 * HOUSES - 1)) return OUTSIDE;
        int h = i % HOUSES;
        boolean people = i >= HOUSES;
        if (!isHouse(h) || people && now.people[h] == 0) return NOTHING;
        if (people) return kind == AS_PEOPLE ? now.people[h] : UNLIKE;
        return houses[h].isOf(kind) ? h : UNLIKE;
    }

    // ---- what several calls use

    private static boolean within(int v, int least, int most) {
        return v >= least && v <= most;
    }

    private static boolean isByte(int v) {
        return within(v, 0, 255);
    }

    private static boolean isSpan(int n) {
        return within(n, 0, MINUTES);
    }

    private static boolean isSheet(int s) {
        return within(s, 0, SHEETS - 1);
    }

    private static boolean isDraw(int seed, int n, int hundredth) {
        return within(seed, 0, LAST_SEED) && isSpan(n) && within(hundredth, 0, 100);
    }

    private boolean isHouse(int h) {
        return within(h, 0, now.size - 1);
    }

    private void put(int b) {
        if (tapeSize >= TAPE) return;
        tape[tapeSize] = b;
        tapeSize++;
    }

    private int settle(int kind, int told, int more) {
        if (!within(kind, 0, LAST_KIND) || !within(told, 0, MOST_TOLD) || !within(more, 0, MOST_MORE)) return BAD;
        if (now.size >= HOUSES) return FULL;
        houses[now.size] = build(kind, told, more);
        now.grow();
        return now.size - 1;
    }

    private static House build(int kind, int told, int more) {
        switch (kind) {
            case 1: return new Heavy(kind, told, more);
            case 2: return new Braked(kind, told, more);
            case 3: return new Aunt(kind, told, more);
            case 4: return new Stuck(kind, told, more);
            case 5: return new Late(kind, told, more);
            default: return new House(kind, told, more);
        }
    }

    private int tellingRefusal(int s) {
        if (!isSheet(s)) return BAD;
        if (sheets[s].sort == MISSING) return NOTHING;
        return sheets[s].size == now.size ? FINE : BAD;
    }

    /** A dusk runs on a town of its own, so that what is only thought of never touches the true one. */
    private void ready() {
        dusk.begin(now, houses, texts[now.law]);
    }

    private int drawnDown(int seed, int n, int hundredth) {
        ready();
        long lot = seed + 1;
        for (int minute = 0; minute < n; minute++) {
            int caught = 0;
            for (int h = 0; h < now.size; h++) {
                if (!now.leads(h)) continue;
                lot = lot * LOT_TIMES % LOT_MODULO;
                if (lot % 100 < hundredth) caught |= 1 << h;
            }
            dusk.pass(minute, caught);
        }
        return dusk.town.downCount();
    }

    // ---- the kinds

    private static class House {
        final int kind, told, more;

        House(int kind, int told, int more) {
            this.kind = kind;
            this.told = told;
            this.more = more;
        }

        int weighsBy(int said, int high) {
            return said;
        }

        int holdsBy(int said) {
            return said;
        }

        boolean isFree(int high, int minute) {
            return true;
        }

        boolean isOf(int asked) {
            switch (asked) {
                case 0: return true;
                case 1: return this instanceof Heavy;
                case 2: return this instanceof Braked;
                case 3: return this instanceof Aunt;
                case 4: return this instanceof Stuck;
                case 5: return this instanceof Late;
                default: return false;
            }
        }
    }

    private static class Heavy extends House {
        Heavy(int kind, int told, int more) {
            super(kind, told, more);
        }

        int weighsBy(int said, int high) {
            return super.weighsBy(said, high) + 3 * more;
        }
    }

    private static class Braked extends House {
        Braked(int kind, int told, int more) {
            super(kind, told, more);
        }

        int holdsBy(int said) {
            return super.holdsBy(said) + more;
        }
    }

    private static final class Aunt extends Heavy {
        Aunt(int kind, int told, int more) {
            super(kind, told, more);
        }

        int weighsBy(int said, int high) {
            int heavy = super.weighsBy(said, high);
            return high < 5 ? 2 * heavy : heavy;
        }
    }

    private static final class Stuck extends Braked {
        Stuck(int kind, int told, int more) {
            super(kind, told, more);
        }

        boolean isFree(int high, int minute) {
            return high != more;
        }
    }

    private static final class Late extends House {
        Late(int kind, int told, int more) {
            super(kind, told, more);
        }

        int weighsBy(int said, int high) {
            return super.weighsBy(said, high) + high;
        }

        boolean isFree(int high, int minute) {
            return minute >= more;
        }
    }

    // ---- what an image keeps

    private static final class Town {
        final int[] high = new int[HOUSES];
        final int[] people = new int[HOUSES];
        final int[] partner = new int[HOUSES];
        int size;
        int law;

        void become(Town other) {
            size = other.size;
            law = other.law;
            System.arraycopy(other.high, 0, high, 0, HOUSES);
            System.arraycopy(other.people, 0, people, 0, HOUSES);
            System.arraycopy(other.partner, 0, partner, 0, HOUSES);
        }

        void grow() {
            if (size >= HOUSES) return;
            high[size] = TOP;
            people[size] = 0;
            partner[size] = NONE;
            size++;
        }

        void loosen(int h) {
            int other = partner[h];
            if (within(other, 0, HOUSES - 1)) partner[other] = NONE;
            partner[h] = NONE;
        }

        void join(int a, int b) {
            loosen(a);
            loosen(b);
            if (a == b) return;
            partner[a] = b;
            partner[b] = a;
        }

        /** A chain is counted, drawn for and let move at its lesser house alone. */
        boolean leads(int h) {
            return partner[h] > h && partner[h] < size;
        }

        boolean isDown(int h) {
            return high[h] == 0;
        }

        int chains() {
            int many = 0;
            for (int h = 0; h < size; h++) if (leads(h)) many++;
            return many;
        }

        int crowd() {
            int together = 0;
            for (int h = 0; h < size; h++) together += people[h];
            return together;
        }

        int highTogether() {
            int together = 0;
            for (int h = 0; h < size; h++) together += high[h];
            return together;
        }

        int downBits() {
            int bits = 0;
            for (int h = 0; h < size; h++) if (isDown(h)) bits |= 1 << h;
            return bits;
        }

        int downCount() {
            return Integer.bitCount(downBits());
        }
    }

    // ---- a dusk, minute by minute

    private static final class Dusk {
        final Town town = new Town();
        final House[] houses = new House[HOUSES];
        final int[] run = new int[HOUSES];
        final int[] moves = new int[HOUSES];
        final int[] hits = new int[HOUSES];
        final int[] lastHit = new int[HOUSES];
        final int[] names = new int[Law.NAMES];
        final int[] stack = new int[TAPE];
        Law law;

        void begin(Town start, House[] ofTown, Law inForce) {
            town.become(start);
            law = inForce;
            for (int h = 0; h < HOUSES && h < ofTown.length; h++) {
                houses[h] = ofTown[h];
                run[h] = 0;
                moves[h] = 0;
                hits[h] = 0;
                lastHit[h] = NONE;
            }
        }

        void go(int n) {
            for (int minute = 0; minute < n; minute++) pass(minute, 0);
        }

        int firstDown(int h) {
            for (int n = 0; n <= MINUTES; n++) {
                if (town.isDown(h)) return n;
                if (n < MINUTES) pass(n, 0);
            }
            return NONE;
        }

        /** Bit h of caught: the chain whose lesser house is h catches in this minute. */
        void pass(int minute, int caught) {
            for (int h = 0; h < town.size; h++) {
                if (town.partner[h] == NONE) alone(h, minute);
                else if (town.leads(h)) pair(h, minute, (caught >> h & 1) != 0);
            }
        }

        private void alone(int h, int minute) {
            boolean goes = town.high[h] > 0 && houses[h].isFree(town.high[h], minute)
                && weighs(h, minute) > holds(h, minute);
            if (goes) sink(h, minute);
            else run[h] = 0;
        }

        private void pair(int h, int minute, boolean catches) {
            int other = town.partner[h];
            int unlike = weighs(h, minute) - weighs(other, minute);
            int down = unlike > 0 ? h : other;
            int up = unlike > 0 ? other : h;
            boolean goes = !catches && town.high[down] > 0 && town.high[up] < TOP
                && houses[down].isFree(town.high[down], minute) && houses[up].isFree(town.high[up], minute)
                && Math.abs(unlike) > holds(h, minute) + holds(other, minute);
            if (goes) {
                sink(down, minute);
                rise(up);
            } else {
                run[h] = 0;
                run[other] = 0;
            }
        }

        private void sink(int h, int minute) {
            town.high[h]--;
            moves[h]++;
            run[h]++;
            if (town.high[h] > 0) return;
            hits[h] += says(Law.HITS, h, minute, run[h]);
            lastHit[h] = minute;
            run[h] = 0;
        }

        private void rise(int h) {
            town.high[h]++;
            moves[h]++;
            run[h] = 0;
        }

        int weighs(int h, int minute) {
            return houses[h].weighsBy(says(Law.WEIGHS, h, minute, 0), town.high[h]);
        }

        private int holds(int h, int minute) {
            return houses[h].holdsBy(says(Law.HOLDS, h, minute, 0));
        }

        int says(int part, int h, int minute, int speed) {
            names[0] = houses[h].told;
            names[1] = town.people[h];
            names[2] = houses[h].more;
            names[3] = town.high[h];
            names[4] = minute;
            names[5] = speed;
            return law.answer(part, names, stack);
        }

        int hitsTogether() {
            int together = 0;
            for (int h = 0; h < town.size; h++) together += hits[h];
            return together;
        }

        int stillBits() {
            int bits = 0;
            for (int h = 0; h < town.size; h++) if (moves[h] == 0) bits |= 1 << h;
            return bits;
        }
    }

    // ---- a text

    /** Three parts as steps for a stack: a number of 0 or more is pushed, what is below 0 is a name or a sign. */
    private static final class Law {
        static final int WEIGHS = 0, HOLDS = 1, HITS = 2, PARTS = 3;
        static final int NAMES = 6;
        static final int LAST_NAME = -NAMES;
        static final int MINUS = -10, NOT = -11;
        static final int OR = -20, AND = -21, LESS = -22, SAME = -23, ADD = -24, TAKE = -25, TIMES = -26;

        final int[] steps = new int[TAPE];
        final int[] from = new int[PARTS + 1];
        int size;

        void add(int step) {
            if (size >= TAPE) return;
            steps[size] = step;
            size++;
        }

        void addName(int name) {
            add(-1 - name);
        }

        int answer(int part, int[] names, int[] stack) {
            if (!within(part, WEIGHS, HITS)) return 0;
            int top = 0;
            for (int i = from[part]; i < from[part + 1] && i < TAPE; i++) {
                int step = steps[i];
                if (step >= LAST_NAME) {
                    if (top >= stack.length) return 0;
                    stack[top] = step >= 0 ? step : names[-1 - step];
                    top++;
                } else if (step >= NOT) {
                    if (top < 1) return 0;
                    stack[top - 1] = signed(step, stack[top - 1]);
                } else {
                    if (top < 2) return 0;
                    stack[top - 2] = joined(step, stack[top - 2], stack[top - 1]);
                    top--;
                }
            }
            if (top < 1) return 0;
            return Math.max(0, Math.min(part == WEIGHS ? 999 : 99, stack[0]));
        }

        private static int signed(int sign, int a) {
            if (sign == MINUS) return -a;
            return a == 0 ? 1 : 0;
        }

        private static int joined(int sign, int a, int b) {
            switch (sign) {
                case OR: return a != 0 || b != 0 ? 1 : 0;
                case AND: return a != 0 && b != 0 ? 1 : 0;
                case LESS: return a < b ? 1 : 0;
                case SAME: return a == b ? 1 : 0;
                case ADD: return a + b;
                case TAKE: return a - b;
                default: return a * b;
            }
        }
    }

    /** Reads a tape by descent; where it stops, the token that it stands on is the fault. */
    private static final class Reader {
        // A sign is a token by its own byte; these are below all of them.
        private static final int END = 0, WRONG = 1, NUMBER = 2, NAME = 3, OR = 4, AND = 5, NOT = 6, KEY = 7;
        private static final int MOST_OPEN = 5, MOST_DIGITS = 4;

        private int[] tape;
        private int tapeSize;
        private Law law;
        private int at;
        private int start;
        private int token;
        private int value;

        /** The place of the fault, or NONE. */
        int read(int[] bytes, int many, Law into) {
            tape = bytes;
            tapeSize = Math.min(many, bytes.length);
            law = into;
            law.size = 0;
            at = 0;
            next();
            for (int part = 0; part < Law.PARTS; part++) {
                law.from[part] = law.size;
                if (!take(KEY + part) || !either(0) || !take(';')) return start;
                law.from[part + 1] = law.size;
            }
            return token == END ? NONE : start;
        }

        private boolean take(int due) {
            if (token != due) return false;
            next();
            return true;
        }

        // E
        private boolean either(int open) {
            if (!both(open)) return false;
            for (int i = 0; i < TAPE && token == OR; i++) {
                next();
                if (!both(open)) return false;
                law.add(Law.OR);
            }
            return true;
        }

        // AND
        private boolean both(int open) {
            if (!unless(open)) return false;
            for (int i = 0; i < TAPE && token == AND; i++) {
                next();
                if (!unless(open)) return false;
                law.add(Law.AND);
            }
            return true;
        }

        // NOT
        private boolean unless(int open) {
            if (token != NOT) return compared(open);
            if (open >= MOST_OPEN) return false;
            next();
            if (!unless(open + 1)) return false;
            law.add(Law.NOT);
            return true;
        }

        private boolean compared(int open) {
            if (!sum(open)) return false;
            if (token != '<' && token != '=') return true;
            int sign = token;
            next();
            if (!sum(open)) return false;
            law.add(sign == '<' ? Law.LESS : Law.SAME);
            return true;
        }

        private boolean sum(int open) {
            if (!term(open)) return false;
            for (int i = 0; i < TAPE && (token == '+' || token == '-'); i++) {
                int sign = token;
                next();
                if (!term(open)) return false;
                law.add(sign == '+' ? Law.ADD : Law.TAKE);
            }
            return true;
        }

        private boolean term(int open) {
            if (!one(open)) return false;
            for (int i = 0; i < TAPE && token == '*'; i++) {
                next();
                if (!one(open)) return false;
                law.add(Law.TIMES);
            }
            return true;
        }

        private boolean one(int open) {
            if (token == NUMBER) {
                law.add(value);
                next();
                return true;
            }
            if (token == NAME) {
                law.addName(value);
                next();
                return true;
            }
            if (token != '-' && token != '(' || open >= MOST_OPEN) return false;
            boolean minus = token == '-';
            next();
            if (!minus) return either(open + 1) && take(')');
            if (!one(open + 1)) return false;
            law.add(Law.MINUS);
            return true;
        }

        private void next() {
            while (at < tapeSize && (tape[at] == ' ' || tape[at] == '\n')) at++;
            start = at;
            if (at >= tapeSize) token = END;
            else if (isLetter(tape[at])) word();
            else if (isDigit(tape[at])) number();
            else sign();
        }

        private void word() {
            while (at < tapeSize && isLetter(tape[at])) at++;
            if (isWord("weighs")) token = KEY + Law.WEIGHS;
            else if (isWord("holds")) token = KEY + Law.HOLDS;
            else if (isWord("hits")) token = KEY + Law.HITS;
            else if (isWord("or")) token = OR;
            else if (isWord("and")) token = AND;
            else if (isWord("not")) token = NOT;
            else {
                value = nameRead();
                token = value == NONE ? WRONG : NAME;
            }
        }

        private int nameRead() {
            if (isWord("told")) return 0;
            if (isWord("people")) return 1;
            if (isWord("more")) return 2;
            if (isWord("high")) return 3;
            if (isWord("minute")) return 4;
            if (isWord("speed")) return 5;
            return NONE;
        }

        private boolean isWord(String word) {
            if (at - start != word.length()) return false;
            for (int i = start; i < at; i++) {
                if (tape[i] != word.charAt(i - start)) return false;
            }
            return true;
        }

        private void number() {
            value = 0;
            while (at < tapeSize && isDigit(tape[at])) {
                value = value * 10 + tape[at] - '0';
                at++;
            }
            token = at - start > MOST_DIGITS ? WRONG : NUMBER;
        }

        private void sign() {
            int b = tape[at];
            at++;
            boolean known = b == '(' || b == ')' || b == ';' || b == '+' || b == '-' || b == '*' || b == '<' || b == '=';
            token = known ? b : WRONG;
        }

        private static boolean isLetter(int b) {
            return within(b, 'a', 'z');
        }

        private static boolean isDigit(int b) {
            return within(b, '0', '9');
        }
    }

    // ---- a sheet

    private static final class Sheet {
        final int[] row = new int[CELLS];
        int sort = MISSING;
        int size;

        void renew(int newSort, int newSize) {
            sort = newSort;
            size = newSize;
            for (int i = 0; i < CELLS; i++) row[i] = 0;
        }

        boolean has(int i) {
            return i >= 0 && i < size && i < CELLS;
        }

        void write(int i, int v) {
            if (!has(i)) return;
            if (sort == BYTES) row[i] = (byte) v;
            else if (sort == SHORTS) row[i] = (short) v;
            else row[i] = v;
        }

        int firstOtherwise(Town town) {
            for (int h = 0; h < town.size && h < CELLS; h++) {
                if (row[h] != town.high[h]) return h;
            }
            return NONE;
        }
    }
}
