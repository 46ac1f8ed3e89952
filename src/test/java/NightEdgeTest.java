/** Promises 21 to 31, each by its own edges, and what AN IMAGE keeps. */
public final class NightEdgeTest {
    public static void main(String[] args) {
        night();
        dawn();
        judge();
        times();
        laws();
        thief();
        sizes();
        film();
        drawn();
        odds();
        image();
        imageKeeps();
        back();
        Check.end();
    }

    private static UpperFloors of(int... told) {
        UpperFloors x = new UpperFloors();
        for (int t : told) x.house(0, t, 0);
        return x;
    }

    private static void set(UpperFloors x, int... high) {
        for (int h = 0; h < high.length; h++) x.set(h, 0, high[h]);
    }

    private static void highs(String what, UpperFloors x, int... due) {
        for (int h = 0; h < due.length; h++) Check.due(what + ", high " + h, x.told(h, 0), due[h]);
    }

    /** Promise 21: of 0 MINUTES nothing moves, of 24 all does; none, some, all are DOWN. */
    private static void night() {
        UpperFloors x = of(9, 9, 9, 9, 9, 9, 9);
        Check.due("of 0", x.night(0), 0);
        highs("of 0", x, 9, 9, 9, 9, 9, 9, 9);
        Check.due("of 1", x.night(1), 0);
        highs("of 1", x, 8, 8, 8, 8, 8, 8, 8);
        x.set(6, 0, 9);
        Check.due("of 8", x.night(8), 6);
        highs("of 8", x, 0, 0, 0, 0, 0, 0, 1);
        Check.due("of 24", x.night(24), 7);
        Check.due("of 0, all down", x.night(0), 7);
        // MINUTES of the next dusk begin at 0 again.
        UpperFloors y = Check.under("weighs minute=23;holds 0;hits 0;");
        y.house(0, 0, 0);
        for (int i = 1; i <= 3; i++) {
            Check.due("23 minutes", y.night(23), 0);
            highs("23 minutes", y, 10 - i);
            Check.due("24 minutes", y.night(24), 0);
            highs("24 minutes", y, 9 - i);
        }
        UpperFloors z = of(9, 0);
        z.set(1, 0, 0);
        z.chain(0, 1);
        z.night(9);
        highs("up, too", z, 0, 9);
        Check.due("people and chains stay", z.told(0, 2), 1);
    }

    /** Promise 22: "so far (0 .. 9) HIGHER (9 at most): how far all went together". */
    private static void dawn() {
        for (int far = 0; far <= 9; far++) {
            for (int high = 0; high <= 9; high++) {
                UpperFloors x = of(0, 0);
                set(x, high, 0);
                Check.due("together", x.dawn(far), Math.min(far, 9 - high) + far);
                highs(far + " from " + high, x, Math.min(9, high + far), far);
            }
        }
        UpperFloors x = of(0, 0, 0, 0, 0, 0, 0);
        Check.due("all are at the top", x.dawn(9), 0);
        set(x, 0, 0, 0, 0, 0, 0, 0);
        Check.due("all from the ground", x.dawn(9), 63);
        highs("at the top", x, 9, 9, 9, 9, 9, 9, 9);
    }

    /** Promise 23: the first HOUSE, the last one, none; sheets of 0 and of 7 numbers; 6 and 8 are not 7. */
    private static void judge() {
        UpperFloors none = new UpperFloors();
        none.sheet(0, 2, 0);
        Check.due("of no houses, none is otherwise", none.judge(0, 0), -1);
        none.sheet(1, 2, 1);
        Check.due("a size of 1 isn't none", none.judge(1, 0), -2);
        Check.due("the size ahead of n", none.judge(1, 25), -2);
        Check.due("n", none.judge(0, 25), -7);
        UpperFloors x = of(9, 9, 9, 9, 9, 9, 9);
        for (int sort = 0; sort < 3; sort++) {
            for (int size : new int[] {0, 1, 6, 8, 40}) {
                x.sheet(0, sort, size);
                Check.due("a size of " + size, x.judge(0, 24), -2);
            }
            x.sheet(0, sort, 7);
            Check.due("all 0, behind 24", x.judge(0, 24), -1);
            Check.due("all 0, behind 9", x.judge(0, 9), -1);
            Check.due("not behind 8", x.judge(0, 8), 0);
            for (int h = 6; h >= 0; h--) {
                x.cell(0, h, 1);
                Check.due("the first otherwise", x.judge(0, 24), h);
            }
            Check.due("all 1, behind 8", x.judge(0, 8), -1);
            for (int wrong : new int[] {-1, 0, 2, 10, 127}) {
                x.cell(0, 6, wrong);
                Check.due("the last one's is otherwise", x.judge(0, 8), 6);
            }
        }
    }

    /** Promise 24: "n (bits 0 .. 24)": bit 0, bit 24, all, none. */
    private static void times() {
        UpperFloors none = new UpperFloors();
        none.sheet(0, 0, 0);
        Check.due("of no houses, each n", none.times(0), (1 << 25) - 1);
        UpperFloors x = of(0, 0, 0, 0, 0, 0, 0);
        Check.sheet(x, 0, 0, 9, 9, 9, 9, 9, 9, 9);
        Check.due("nothing moves: each n", x.times(0), (1 << 25) - 1);
        x.cell(0, 6, 8);
        Check.due("no n", x.times(0), 0);
        UpperFloors y = Check.under("weighs minute=23;holds 0;hits 0;");
        y.house(0, 0, 0);
        Check.sheet(y, 0, 1, 8);
        Check.due("bit 24 alone", y.times(0), 1 << 24);
        Check.sheet(y, 0, 1, 9);
        Check.due("all but bit 24", y.times(0), (1 << 24) - 1);
        UpperFloors z = of(9);
        Check.sheet(z, 0, 2, 9);
        Check.due("bit 0 alone", z.times(0), 1);
    }

    /** Promise 25: bits of the first TEXT, of the last one, of all six, of none. */
    private static void laws() {
        UpperFloors none = new UpperFloors();
        none.sheet(0, 0, 0);
        Check.due("of no houses, the one text", none.laws(0, 24), 1);
        UpperFloors x = of(9, 9, 9, 9, 9, 9, 9);
        for (int t = 1; t < 6; t++) Check.text(x, "weighs minute=" + t + ";holds 0;hits 0;");
        Check.sheet(x, 0, 0, 9, 9, 9, 9, 9, 9, 9);
        Check.due("behind 0, all six", x.laws(0, 0), 63);
        Check.due("behind 1, all but the first", x.laws(0, 1), 62);
        Check.due("behind 5", x.laws(0, 5), 32);
        Check.due("behind 6, none", x.laws(0, 6), 0);
        Check.sheet(x, 0, 0, 8, 8, 8, 8, 8, 8, 8);
        Check.due("behind 1, the first", x.laws(0, 1), 1);
        Check.due("behind 24, the other five", x.laws(0, 24), 62);
        Check.sheet(x, 0, 0, 8, 8, 8, 8, 8, 8, 9);
        Check.due("the last house is otherwise", x.laws(0, 24), 0);
        Check.due("the law stays", x.count(4), 0);
    }

    /** Promise 26: "(bits 0 .. 20)": bit 0, bit 20, all 21, none. */
    private static void thief() {
        for (int people = 0; people <= 40; people++) {
            UpperFloors x = Check.under("weighs people=" + people + ";holds 0;hits 0;");
            x.house(0, 0, 0);
            x.house(0, 0, 0);
            Check.sheet(x, 0, 0, 9, 8);
            Check.due("just " + people, x.thief(0, 1, 1), people > 0 && people <= 20 ? 1 << people : 0);
            x.set(1, 1, 20);
            x.set(0, 1, people == 0 ? 1 : 0);
            Check.due("20 there, just " + people, x.thief(0, 1, 1), people >= 20 ? 1 << people - 20 : 0);
        }
        UpperFloors y = of(0, 9);
        Check.sheet(y, 0, 0, 9, 9);
        Check.due("behind 0, all", y.thief(0, 0, 0), (1 << 21) - 1);
        Check.due("by none", y.thief(0, 1, 0), 0);
        Check.sheet(y, 0, 0, 9, 8);
        Check.due("nobody more", y.thief(0, 1, 0), 1);
        Check.due("as many as may be, it falls anyway", y.thief(0, 1, 1), (1 << 21) - 1);
    }

    /** "BAD: its size isn't how many HOUSES there are": 0, 1 less, 1 more, 40; of none 1, 40; ahead of what is behind it. */
    private static void sizes() {
        for (int there = 0; there <= 7; there++) {
            UpperFloors x = new UpperFloors();
            for (int h = 0; h < there; h++) x.house(0, 0, 0);
            for (int size : new int[] {0, there - 1, there, there + 1, 40}) {
                if (size < 0) continue;
                x.sheet(1, size % 3, size);
                for (int i = 0; i < size; i++) x.cell(1, i, 9);
                boolean like = size == there;
                String what = size + " numbers of " + there;
                Check.due("judge, " + what, x.judge(1, 24), like ? -1 : -2);
                Check.due("judge, n wrong, " + what, x.judge(1, 25), like ? -7 : -2);
                Check.due("times, " + what, x.times(1), like ? (1 << 25) - 1 : -2);
                Check.due("laws, " + what, x.laws(1, 24), like ? 1 : -2);
                Check.due("laws, n wrong, " + what, x.laws(1, -1), like ? -7 : -2);
                Check.due("thief, " + what, x.thief(1, 0, 0), !like ? -2 : there == 0 ? -5 : (1 << 21) - 1);
                Check.due("thief, no such house, " + what, x.thief(1, 25, there), like ? -5 : -2);
                Check.due("thief, n wrong, " + what, x.thief(1, 25, 0), !like ? -2 : there == 0 ? -5 : -7);
            }
        }
    }

    /** Promise 27: "A SHEET truly becomes that (ints)": a missing one, one of another sort and size; of none, of seven. */
    private static void film() {
        for (int sort = -1; sort < 3; sort++) {
            for (int size : new int[] {0, 3, 40}) {
                UpperFloors x = of(9, 9, 9, 9, 9, 9, 9);
                x.sheet(3, sort, size);
                Check.due("seven", x.film(3, 24), 7);
                Check.due("the last number", x.cell(3, 6, 0), 1);
                Check.due("no number more", x.cell(3, 7, 0), -12);
                for (int as = 0; as < 3; as++) Check.due("ints", x.housesBy(3, as, 0, 0), as == 2 ? 0 : -13);
                Check.due("behind 9 and more", x.times(3), (1 << 25) - (1 << 9));
                Check.due("behind 0", x.film(3, 0), 7);
                Check.due("bit 0", x.times(3), 1);
                UpperFloors none = new UpperFloors();
                none.sheet(0, sort, size);
                Check.due("of none", none.film(0, 0), 0);
                Check.due("no number", none.cell(0, 0, 0), -12);
                Check.due("ints, too", none.housesBy(0, 2, 0, 0), 0);
            }
        }
        UpperFloors x = of(1);
        Check.due("refused", x.film(0, 25), -7);
        Check.due("missing as ahead", x.cell(0, 0, 0), -11);
    }

    /** Promise 28: behind 0, behind 24; none, all are DOWN. */
    private static void drawn() {
        UpperFloors x = of(9, 9, 9, 9, 9, 9, 9);
        for (int seed : new int[] {0, 99999}) {
            for (int hundredth : new int[] {0, 100}) {
                Check.due("behind 0", x.drawn(seed, 0, hundredth), 0);
                Check.due("behind 8", x.drawn(seed, 8, hundredth), 0);
                Check.due("behind 9", x.drawn(seed, 9, hundredth), 7);
                Check.due("behind 24", x.drawn(seed, 24, hundredth), 7);
            }
        }
    }

    /** Promise 29: "twenty seeds, SEED and each 1 more (they may pass 99999)"; "in lowest terms". */
    private static void odds() {
        UpperFloors x = of(9, 9);
        for (int seed : new int[] {0, 1, 99980, 99981, 99999}) {
            Check.due("all seeds, above", x.odds(seed, 9, 50, 0), 1);
            Check.due("all seeds, below", x.odds(seed, 9, 50, 1), 1);
            Check.due("no seed, above", x.odds(seed, 8, 50, 0), 0);
            Check.due("no seed, below", x.odds(seed, 8, 50, 1), 1);
        }
        x.chain(0, 1);
        Check.due("chained at the top", x.odds(99999, 24, 0, 0), 0);
        set(x, 0, 0);
        Check.due("chained on the ground", x.odds(99999, 24, 0, 0), 1);
        set(x, 0, 1);
        Check.due("chained, 1 above it", x.odds(99999, 24, 0, 0), 0);
        int[][] bad = {{-1, 0, 0, 0}, {100000, 0, 0, 0}, {0, -1, 0, 0}, {0, 25, 0, 0}, {0, 0, -1, 0}, {0, 0, 101, 0},
            {0, 0, 0, -1}, {0, 0, 0, 2}};
        for (int[] b : bad) Check.due("no such", x.odds(b[0], b[1], b[2], b[3]), -4611686018427387904L);
    }

    /** Promise 30: of none, of seven; the later one counts. */
    private static void image() {
        UpperFloors x = new UpperFloors();
        for (int h = 0; h <= 7; h++) {
            Check.due("how many", x.image(), h);
            Check.due("back to them", x.back(), h);
            x.house(0, h, 0);
            Check.due("one came since", x.count(0), Math.min(7, h + 1));
            if (h == 7) break;
            Check.due("it is none", x.back(), h);
            Check.due("it is none", x.told(h, 0), -5);
            x.house(0, h, 0);
        }
    }

    /** "AN IMAGE keeps how HIGH floors are, PEOPLE, CHAINS, how many HOUSES there are, THE LAW": these, and no others. */
    private static void imageKeeps() {
        UpperFloors x = of(1, 2, 3);
        Check.text(x, "weighs 5;holds 1;hits 1;");
        set(x, 0, 5, 9);
        x.set(0, 1, 20);
        x.chain(0, 2);
        x.force(1);
        Check.feed(x, "ab");
        x.sheet(0, 0, 3);
        x.image();
        set(x, 9, 0, 1);
        x.set(0, 1, 0);
        x.set(1, 1, 7);
        x.chain(1, 2);
        x.house(3, 3, 3);
        x.force(0);
        Check.text(x, "!");
        Check.text(x, "weighs 6;holds 1;hits 1;");
        Check.feed(x, "abcd");
        x.sheet(0, 2, 4);
        x.sheet(1, 1, 2);
        Check.due("three", x.back(), 3);
        highs("kept", x, 0, 5, 9);
        Check.due("people", x.told(0, 1) * 100 + x.told(1, 1), 2000);
        Check.due("chains", x.count(1), 1);
        Check.due("chains", x.told(0, 2) * 10 + x.told(2, 2), 20);
        Check.due("on none", x.told(1, 2), -1);
        Check.due("the law", x.count(4), 1);
        Check.due("houses", x.count(0), 3);
        Check.due("texts are not in it", x.count(3), 3);
        Check.due("the tape is not in it", x.count(5), 4);
        Check.due("sheets are not in it", x.cell(0, 3, 0), 1);
        Check.due("sheets are not in it", x.cell(1, 1, 0), 1);
        Check.due("nor their sorts", x.housesBy(0, 2, 0, 0), 0);
        for (int h = 0; h < 3; h++) Check.due("kinds and numbers as they were", x.told(h, 4), h + 1);
    }

    /** Promise 31: "HOUSES that came since are none"; "STATE: there is none." */
    private static void back() {
        UpperFloors x = new UpperFloors();
        Check.due("none yet", x.back(), -3);
        for (int h = 0; h < 7; h++) {
            x.house(5, 90 + h, 9);
            x.set(h, 0, h);
            x.set(h, 1, 20);
            Check.due("none yet", x.back(), -3);
            if (h == 2) Check.due("of three", x.count(0), 3);
        }
        Check.due("seven", x.image(), 7);
        x.night(24);
        Check.due("seven", x.back(), 7);
        highs("as they were", x, 0, 1, 2, 3, 4, 5, 6);
        Check.due("again, from it", x.back(), 7);
        UpperFloors y = new UpperFloors();
        y.image();
        for (int again = 0; again < 3; again++) {
            for (int h = 0; h < 7; h++) Check.due("its number", y.house(again, h, again), h);
            y.chain(0, 6);
            y.set(6, 0, 1);
            y.set(6, 1, 20);
            Check.due("full", y.house(0, 0, 0), -4);
            Check.due("none of them", y.back(), 0);
            Check.due("no people", y.count(2), 0);
            Check.due("no chains", y.count(1), 0);
            Check.due("none lies there", y.taken(6, 0), -11);
        }
        y.house(0, 0, 0);
        Check.due("a new one is as at first", y.told(0, 0), 9);
        Check.due("on none", y.told(0, 2), -1);
        for (int h = 1; h < 7; h++) y.house(0, 0, 0);
        Check.due("as at first", y.told(6, 0) * 100 + y.told(6, 1), 900);
        Check.due("on none", y.told(6, 2), -1);
        // One of the image on a chain with one that came since is on none.
        UpperFloors z = of(1, 1);
        z.image();
        z.house(0, 1, 0);
        z.chain(0, 2);
        z.back();
        Check.due("on none", z.told(0, 2), -1);
        z.house(0, 1, 0);
        Check.due("on none", z.told(2, 2), -1);
        Check.due("no chain", z.count(1), 0);
    }
}
