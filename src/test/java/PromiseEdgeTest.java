/** Promises 1 to 20, each by its own edges: none and one and all there, the first and the last of each row of bits. */
public final class PromiseEdgeTest {
    public static void main(String[] args) {
        theLastCall();
        newObject();
        objectsApart();
        count();
        feed();
        text();
        force();
        asks();
        house();
        set();
        chain();
        told();
        of();
        all();
        when();
        first();
        bring();
        weight();
        over();
        link();
        frees();
        hang();
        Check.end();
    }

    /** Each of TOLD houses falls under the first law, if it is TOLD 3 or more. */
    private static UpperFloors of(int... told) {
        UpperFloors x = new UpperFloors();
        for (int t : told) x.house(0, t, 0);
        return x;
    }

    private static void highs(UpperFloors x, int... high) {
        for (int h = 0; h < high.length; h++) x.set(h, 0, high[h]);
    }

    /** "at most 512 calls": the last of them is answered as each one. */
    private static void theLastCall() {
        UpperFloors x = new UpperFloors();
        int calls = 0;
        for (int h = 0; h < 7; h++, calls++) x.house(0, 10, 0);
        for (; calls < 509; calls++) x.set(calls % 7, 1, calls % 21);
        Check.due("call 510", x.count(0), 7);
        Check.due("call 511", x.when(6), 9);
        Check.due("call 512", x.all(9, 0), 127);
    }

    /** "No HOUSES." */
    private static void newObject() {
        UpperFloors x = new UpperFloors();
        int[] due = {0, 0, 0, 1, 0, 0};
        for (int what = 0; what < 6; what++) Check.due("count " + what, x.count(what), due[what]);
        for (int n = 0; n <= 24; n += 24) {
            for (int what = 0; what < 4; what++) Check.due("all", x.all(n, what), 0);
            Check.due("weight", x.weight(20, n, 0), -1);
            Check.due("weight", x.weight(20, n, 1), -1);
            Check.due("over", x.over(n, 0), -1);
            Check.due("over", x.over(n, 1), 0);
            Check.due("link", x.link(n, 0), -1);
            Check.due("link", x.link(n, 1), 0);
            Check.due("night", x.night(n), 0);
            Check.due("drawn", x.drawn(0, n, 50), 0);
            Check.due("odds", x.odds(0, n, 50, 0), 1);
            Check.due("odds", x.odds(0, n, 50, 1), 1);
        }
        for (int what = 0; what < 2; what++) Check.due("first", x.first(what), -1);
        Check.due("dawn", x.dawn(9), 0);
        for (int s = 0; s < 4; s++) Check.due("sheets are missing", x.cell(s, 0, 0), -11);
        Check.due("back", x.back(), -3);
        Check.due("image", x.image(), 0);
    }

    /** "A new object": what was done to others shows in none, neither in a new one nor in one that was there. */
    private static void objectsApart() {
        UpperFloors there = Seen.made(Seen.SOME);
        String none = Seen.of(Seen.NOTHING);
        UpperFloors full = Seen.made(Seen.ALL);
        full.night(24);
        full.back();
        Check.holds("a new one is as each new one", Seen.of(Seen.NOTHING).equals(none));
        Check.due("no houses", new UpperFloors().count(0), 0);
        Check.due("no image", new UpperFloors().back(), -3);
        UpperFloors again = Seen.made(Seen.SOME);
        for (int what = 0; what < 6; what++) Check.due("one that was there", there.count(what), again.count(what));
        for (int h = 0; h < 3; h++) {
            for (int what = 0; what < 6; what++) Check.due("its houses", there.told(h, what), again.told(h, what));
        }
        Check.due("its dusk", there.all(9, 0), again.all(9, 0));
        Check.due("its lots", there.drawn(9, 9, 50), again.drawn(9, 9, 50));
        Check.due("its tape", there.text(), again.text());
        Check.due("its image", there.back(), again.back());
    }

    // ---- the law

    /** Promise 2: nothing there, and all full. */
    private static void count() {
        UpperFloors x = new UpperFloors();
        int[] most = {7, 3, 140, 6, 5, 160};
        for (int what = 0; what < 6; what++) Check.due("at first", x.count(what), what == 3 ? 1 : 0);
        for (int h = 0; h < 7; h++) {
            x.house(0, 0, 0);
            x.set(h, 1, 20);
        }
        for (int h = 0; h < 3; h++) x.chain(2 * h, 2 * h + 1);
        for (int t = 1; t < 6; t++) Check.text(x, "weighs 1;holds 1;hits 1;");
        x.force(5);
        for (int i = 0; i < 32; i++) x.feed(5, 1, 2, 3, 4, 5);
        for (int what = 0; what < 6; what++) Check.due("all full", x.count(what), most[what]);
    }

    /** Promise 3: "The first n (1 .. 5) of five bytes (0 .. 255 each) come behind THE TAPE's, one by one". */
    private static void feed() {
        String text = "weighs 7;holds 8;hits 9;";
        for (int n = 1; n <= 5; n++) {
            UpperFloors x = new UpperFloors();
            x.house(0, 0, 0);
            for (int i = 0; i < text.length(); i += n) {
                // What is behind the first n of five doesn't come, though it is looked at.
                int[] five = {'!', '!', '!', '!', '!'};
                int many = Math.min(n, text.length() - i);
                for (int k = 0; k < many; k++) five[k] = text.charAt(i + k);
                Check.due("so many by " + n, x.feed(many, five[0], five[1], five[2], five[3], five[4]), i + many);
            }
            Check.due("a text by " + n, x.text(), 1);
            x.force(1);
            for (int part = 0; part < 3; part++) Check.due("part " + part, x.asks(part, 0, 0), 7 + part);
        }
        UpperFloors y = new UpperFloors();
        for (int i = 1; i <= 160; i++) Check.due("byte " + i, y.feed(1, i % 2 == 0 ? 0 : 255, 0, 0, 0, 0), i);
        Check.due("no byte more", y.feed(1, 0, 0, 0, 0, 0), -4);
        UpperFloors z = new UpperFloors();
        for (int i = 1; i <= 32; i++) Check.due("5 more", z.feed(5, 0, 0, 0, 0, 0), 5 * i);
        Check.due("160 of 160", z.count(5), 160);
        Check.due("they have not all room", z.feed(5, 0, 0, 0, 0, 0), -4);
        for (int bytes = 156; bytes <= 159; bytes++) {
            UpperFloors w = new UpperFloors();
            for (int i = 0; i < bytes; i++) w.feed(1, ' ', 0, 0, 0, 0);
            Check.due("5 have not all room in " + bytes, w.feed(5, '!', '!', '!', '!', '!'), -4);
            Check.due("none comes", w.count(5), bytes);
            Check.due("none came", w.text(), -100 - bytes);
        }
    }

    /** Promise 4: "THE TAPE, which is empty then (by a FAULT, too), is a TEXT"; "FULL (ahead of the FAULT; ..)". */
    private static void text() {
        UpperFloors x = new UpperFloors();
        Check.due("of nothing", x.text(), -100);
        for (int i = 0; i < 32; i++) x.feed(5, ' ', ' ', ' ', ' ', ' ');
        Check.due("of 160 blanks", x.text(), -260);
        Check.due("empty then", x.count(5), 0);
        Check.due("room for 5 again", x.feed(5, ' ', ' ', ' ', ' ', ' '), 5);
        x.text();
        for (int t = 1; t <= 5; t++) {
            Check.due("a fault takes no number", Check.text(x, "weighs 1;holds 1;hits 1;!"), -124);
            Check.due("empty by a fault, too", x.count(5), 0);
            Check.due("its number", Check.text(x, "weighs 1;holds 1;hits 1;"), t);
            Check.due("empty", x.count(5), 0);
        }
        Check.due("full, of an empty tape", x.text(), -4);
        for (String tape : new String[] {"!", "weighs 1;holds 1;hits 1;"}) {
            Check.feed(x, tape);
            int there = x.count(5);
            for (int i = 0; i < 3; i++) Check.due("full", x.text(), -4);
            Check.due("the tape stays", x.count(5), there);
        }
        Check.due("six", x.count(3), 6);
    }

    /** Promise 5: the first TEXT and the last one; which was. */
    private static void force() {
        UpperFloors x = new UpperFloors();
        Check.due("the one there is", x.force(0), 0);
        Check.due("no other one", x.force(1), -2);
        for (int t = 1; t < 6; t++) Check.text(x, "weighs " + t + ";holds 1;hits 1;");
        Check.due("none is the law by coming", x.count(4), 0);
        x.house(0, 50, 0);
        int was = 0;
        for (int t : new int[] {5, 5, 0, 3, 1, 5}) {
            Check.due("which was", x.force(t), was);
            Check.due("which is", x.count(4), t);
            Check.due("it says", x.asks(0, 0, 0), t == 0 ? 50 : t);
            was = t;
        }
        for (int t : new int[] {-1, 6}) Check.due("none such", x.force(t), -2);
        Check.due("still", x.count(4), 5);
    }

    /** Promise 6: "of a HOUSE as it is now, in a minute (0 .. 24; speed 0)". */
    private static void asks() {
        UpperFloors x = Check.under("weighs 20-minute;holds high;hits speed+people;");
        for (int kind = 0; kind < 6; kind++) x.house(kind, 9, 9);
        for (int h = 0; h < 6; h++) {
            x.set(h, 0, 4);
            x.set(h, 1, h);
            // No kind adds to what a text says, and no dusk passes.
            Check.due("in minute 0", x.asks(0, h, 0), 20);
            Check.due("in minute 24", x.asks(0, h, 24), 0);
            Check.due("as high as now", x.asks(1, h, 24), 4);
            Check.due("speed 0", x.asks(2, h, 24), h);
        }
    }

    // ---- houses, chains

    /** Promise 7: numbers 0 to 6, then FULL; BAD ahead of it. */
    private static void house() {
        UpperFloors x = new UpperFloors();
        int[][] ends = {{0, 0, 0}, {5, 99, 9}, {0, 99, 0}, {5, 0, 9}, {1, 1, 1}, {2, 98, 8}, {4, 50, 5}};
        int[][] bad = {{-1, 0, 0}, {6, 0, 0}, {0, -1, 0}, {0, 100, 0}, {0, 0, -1}, {0, 0, 10}};
        for (int h = 0; h < 7; h++) {
            for (int[] b : bad) Check.due("bad", x.house(b[0], b[1], b[2]), -2);
            Check.due("its number", x.house(ends[h][0], ends[h][1], ends[h][2]), h);
            for (int i = 0; i < 3; i++) Check.due("as told", x.told(h, 3 + i), ends[h][i]);
        }
        for (int[] b : bad) Check.due("bad ahead of full", x.house(b[0], b[1], b[2]), -2);
        for (int[] e : ends) Check.due("full", x.house(e[0], e[1], e[2]), -4);
    }

    /** Promise 8: "What 0 how HIGH a floor is, 1 PEOPLE becomes v: what was." */
    private static void set() {
        UpperFloors x = of(1, 1, 1, 1, 1, 1, 1);
        for (int h = 0; h < 7; h += 6) {
            int[] most = {9, 20};
            for (int what = 0; what < 2; what++) {
                int was = x.told(h, what);
                for (int v : new int[] {0, most[what], 1, most[what] - 1, most[what] - 1}) {
                    Check.due("what was", x.set(h, what, v), was);
                    Check.due("what is", x.told(h, what), v);
                    was = v;
                }
                for (int v : new int[] {-1, most[what] + 1}) Check.due("neither less nor more", x.set(h, what, v), -7);
                Check.due("what is", x.told(h, what), was);
            }
        }
        Check.due("10 is no height", x.set(0, 0, 10), -7);
        Check.due("10 are people", x.set(0, 1, 10), 19);
    }

    /** Promise 9: "on one CHAIN, on no other ones any more (a is b: on none): with which a was (-1: none)". */
    private static void chain() {
        UpperFloors x = of(1, 1, 1, 1, 1, 1, 1);
        Check.due("one with itself, on none", x.chain(0, 0), -1);
        Check.due("the first and the last", x.chain(0, 6), -1);
        Check.due("each way", x.told(0, 2) * 10 + x.told(6, 2), 60);
        Check.due("the same once more", x.chain(0, 6), 6);
        Check.due("the other way round", x.chain(6, 0), 0);
        Check.due("one chain", x.count(1), 1);
        x.chain(2, 1);
        Check.due("both were on others", x.chain(1, 6), 2);
        Check.due("one chain of two", x.count(1), 1);
        for (int h = 0; h < 7; h++) Check.due("chain of " + h, x.told(h, 2), h == 1 ? 6 : h == 6 ? 1 : -1);
        Check.due("of a alone it is told", x.chain(3, 6), -1);
        Check.due("b's was cut", x.told(1, 2), -1);
        Check.due("on none", x.chain(6, 6), 3);
        Check.due("nor the other one", x.told(3, 2), -1);
        Check.due("on none any more", x.chain(3, 3), -1);
        Check.due("no chain", x.count(1), 0);
        Check.due("of three, one is left out", x.chain(4, 5) + x.chain(5, 3), -1 + 4);
        Check.due("it is on none", x.told(4, 2), -1);
    }

    /** Promise 10: each what, at its least and its greatest. */
    private static void told() {
        UpperFloors x = new UpperFloors();
        for (int i = 0; i < 6; i++) x.house(0, 0, 0);
        x.house(5, 99, 9);
        int[] least = {9, 0, -1, 0, 0, 0};
        for (int what = 0; what < 6; what++) Check.due("at first", x.told(0, what), least[what]);
        x.set(0, 0, 0);
        x.set(6, 1, 20);
        x.chain(6, 0);
        int[] most = {9, 20, 0, 5, 99, 9};
        for (int what = 0; what < 6; what++) Check.due("at most", x.told(6, what), most[what]);
        Check.due("0 high", x.told(0, 0), 0);
        Check.due("with 6", x.told(0, 2), 6);
    }

    // ---- a dusk

    /** Promise 11: behind 0 MINUTES and behind 24; "2 the MINUTE of its last HIT (-1)". */
    private static void of() {
        UpperFloors x = of(10, 10, 0);
        highs(x, 9, 0, 9);
        int[][] now = {{9, 0, -1, 0, 10}, {0, 0, -1, 0, 10}, {9, 0, -1, 0, 0}};
        for (int h = 0; h < 3; h++) {
            for (int what = 0; what < 5; what++) Check.due("behind 0", x.of(0, h, what), now[h][what]);
        }
        x.set(0, 1, 1);
        int[] then = {0, 9, 8, 9, 15};
        for (int what = 0; what < 5; what++) Check.due("behind 24", x.of(24, 0, what), then[what]);
        UpperFloors y = Check.under("weighs minute*(minute=0 or minute=23);holds 0-1;hits 1;");
        y.house(0, 0, 0);
        y.set(0, 0, 1);
        Check.due("it weighs by minute n", y.of(23, 0, 4), 23);
        Check.due("minute 24 is in no dusk, but asked for", y.of(24, 0, 4), 0);
        Check.due("the hit of the last minute", y.of(24, 0, 2), 23);
        Check.due("not behind 23", y.of(23, 0, 2), -1);
        UpperFloors z = Check.under("weighs minute=0;holds 0;hits 1;");
        z.house(0, 0, 0);
        z.set(0, 0, 1);
        Check.due("the hit of the first minute", z.of(1, 0, 2), 0);
        Check.due("it stays the last one", z.of(24, 0, 2), 0);
        UpperFloors w = of(0, 9);
        highs(w, 0, 9);
        w.chain(0, 1);
        Check.due("up, too", w.of(24, 0, 1), 9);
        Check.due("9 high", w.of(24, 0, 0), 9);
    }

    /** Promise 12: bits of none and of all seven; none moved, all did. */
    private static void all() {
        UpperFloors x = of(9, 9, 9, 9, 9, 9, 9);
        for (int h = 0; h < 7; h++) x.set(h, 1, 20);
        int[] now = {0, 0, 63, 127};
        int[] then = {127, 7 * 99, 0, 0};
        for (int what = 0; what < 4; what++) {
            Check.due("behind 0", x.all(0, what), now[what]);
            Check.due("behind 24", x.all(24, what), then[what]);
        }
        UpperFloors y = of(0, 0, 0, 0, 0, 0, 9);
        highs(y, 0);
        Check.due("0 and 6", y.all(9, 0), 65);
        Check.due("one that is down and never moved", y.all(9, 3), 63);
        // A floor that is as high again has moved.
        UpperFloors z = Check.under("weighs told*(minute=0)+(9-told)*(minute=1);holds 0;hits 0;");
        z.house(0, 9, 0);
        z.house(0, 0, 0);
        highs(z, 5, 5);
        z.chain(0, 1);
        Check.due("as high as at first", z.all(2, 2) * 10 + z.of(2, 0, 0), 105);
        Check.due("both have moved", z.all(2, 3), 0);
    }

    /** Promise 13: "The least n behind which its floor is DOWN (0: it is now); -1: none." */
    private static void when() {
        for (int high = 0; high <= 9; high++) {
            UpperFloors x = of(9);
            highs(x, high);
            Check.due("from " + high, x.when(0), high);
        }
        for (int minute = 22; minute <= 24; minute++) {
            UpperFloors x = Check.under("weighs minute=" + minute + ";holds 0;hits 0;");
            x.house(0, 0, 0);
            x.set(0, 0, 1);
            Check.due("by minute " + minute, x.when(0), minute < 24 ? minute + 1 : -1);
        }
        UpperFloors y = Check.under("weighs told*(minute=0)+(9-told)*(0<minute);holds 0;hits 0;");
        y.house(0, 9, 0);
        y.house(0, 0, 0);
        highs(y, 1, 5);
        y.chain(0, 1);
        Check.due("down for a minute", y.when(0), 1);
        Check.due("and not then", y.of(24, 0, 0), 6);
        Check.due("the other one later", y.when(1), 7);
    }

    /** Promise 14: none, one, of like ones the first, by the least and by the greatest. */
    private static void first() {
        UpperFloors x = of(0, 0, 0, 0, 0, 0, 0);
        for (int what = 0; what < 2; what++) Check.due("none", x.first(what), -1);
        x.set(6, 1, 1);
        for (int what = 0; what < 2; what++) Check.due("the last alone", x.first(what), 6);
        x.set(3, 1, 1);
        for (int what = 0; what < 2; what++) Check.due("of like ones the first", x.first(what), 3);
        x.set(6, 0, 8);
        Check.due("the least", x.first(0), 6);
        Check.due("the greatest", x.first(1), 3);
        x.set(3, 0, 0);
        Check.due("0 is the least", x.first(0), 3);
        Check.due("the greatest", x.first(1), 6);
        x.set(0, 0, 0);
        x.set(1, 0, 0);
        Check.due("of like ones the first, of 0", x.first(0), 0);
        Check.due("those of none don't count", x.first(1), 6);
        x.set(6, 1, 0);
        Check.due("of like ones the first, of 0", x.first(1), 0);
    }

    // ---- what would bring them down

    /** Promise 15: 0 and 20 more, but no 21; "-1: none do". */
    private static void bring() {
        for (int held = 0; held <= 40; held++) {
            UpperFloors x = Check.under("weighs people;holds " + held + ";hits 0;");
            x.house(0, 0, 0);
            int fewest = held + 1;
            Check.due("held by " + held, x.bring(0, 24), fewest <= 20 ? fewest : -1);
            x.set(0, 1, 20);
            Check.due("20 there, held by " + held, x.bring(0, 24), Math.max(0, fewest - 20) <= 20 ? Math.max(0, fewest - 20) : -1);
        }
        UpperFloors y = of(0, 10);
        Check.due("9 minutes", y.bring(0, 9), 1);
        Check.due("8 are too few", y.bring(0, 8), -1);
        Check.due("none more", y.bring(1, 9), 0);
        y.set(0, 0, 0);
        Check.due("down now, behind 0", y.bring(0, 0), 0);
        // More people need not keep it down: only just so many may.
        UpperFloors z = Check.under("weighs people=20;holds 0;hits 0;");
        z.house(0, 0, 0);
        Check.due("just 20", z.bring(0, 24), 20);
    }

    /** Promise 16: "MOST ARE DOWN ..., of like ones the first (what 0; -1: no HOUSES), how many (1; -1)". */
    private static void weight() {
        UpperFloors x = of(0, 0, 0, 0, 0, 0, 0);
        Check.due("none is down: the first", x.weight(20, 0, 0), 0);
        Check.due("none is down", x.weight(20, 0, 1), 0);
        Check.due("0 people", x.weight(0, 24, 0) * 10 + x.weight(0, 24, 1), 0);
        Check.due("20 people", x.weight(20, 24, 0) * 10 + x.weight(20, 24, 1), 1);
        x.set(0, 0, 0);
        x.set(1, 1, 1);
        Check.due("of like ones the first", x.weight(1, 24, 0), 2);
        Check.due("3 are down", x.weight(1, 24, 1), 3);
        x.set(2, 0, 1);
        Check.due("behind 1 minute the third alone", x.weight(1, 1, 0), 2);
        Check.due("2 are down, less by those behind it", x.weight(1, 1, 1), 2);
        for (int h = 2; h < 6; h++) x.set(h, 0, 0);
        Check.due("the last", x.weight(1, 24, 0), 6);
        Check.due("all 7", x.weight(1, 24, 1), 7);
        UpperFloors y = Check.under("weighs people;holds 39;hits 0;");
        y.house(0, 0, 0);
        y.house(0, 0, 0);
        y.set(1, 1, 20);
        Check.due("20 and 20", y.weight(20, 24, 0), 1);
        Check.due("20 and 19", y.weight(19, 24, 0), 0);
        Check.due("none", y.weight(19, 24, 1), 0);
    }

    /** Promise 17: nobody, one, the last one; from 0 to 1 is 1; "MORE ARE DOWN", not as many. */
    private static void over() {
        UpperFloors x = Check.under("weighs people;holds more;hits 0;");
        for (int h = 0; h < 7; h++) x.house(0, 0, h == 1 ? 0 : 9);
        Check.due("nobody", x.over(24, 0), -1);
        x.set(0, 1, 1);
        Check.due("from 0 to 1", x.over(24, 0), 1);
        Check.due("1 is down", x.over(24, 1), 1);
        Check.due("not behind 8", x.over(8, 0), -1);
        Check.due("none, behind 8", x.over(8, 1), 0);
        x.set(0, 1, 0);
        x.set(6, 1, 1);
        Check.due("from 6 to 1", x.over(24, 0), 61);
        x.set(0, 1, 1);
        Check.due("of like ones the first", x.over(24, 0), 1);
        UpperFloors v = Check.under("weighs people;holds more;hits 0;");
        for (int h = 0; h < 7; h++) v.house(0, 0, h == 0 ? 0 : 9);
        v.set(6, 1, 20);
        Check.due("from 6 to 0", v.over(24, 0), 60);
        Check.due("0 and 6 are down", v.over(24, 1), 2);
        v.set(6, 1, 9);
        v.set(1, 1, 9);
        Check.due("from 1 to 0", v.over(24, 0), 10);
        x.set(1, 1, 1);
        Check.due("1 is down already: no more are", x.over(24, 0), -1);
        Check.due("as now", x.over(24, 1), 1);
        UpperFloors y = of(0);
        y.set(0, 1, 20);
        Check.due("one house: there is no other one", y.over(24, 0), -1);
        Check.due("it is down", y.over(24, 1), 1);
        UpperFloors z = Check.under("weighs people=21;holds 0;hits 0;");
        for (int h = 0; h < 7; h++) z.house(0, 0, 0);
        z.set(5, 1, 20);
        z.set(6, 1, 20);
        Check.due("a 21st in thought, from 6 to 5 or back", z.over(24, 0), 56);
        Check.due("it is down", z.over(24, 1), 1);
        UpperFloors w = Check.under("weighs (people=0)*(told=1)+(people=21);holds 0;hits 0;");
        for (int h = 0; h < 7; h++) w.house(0, h == 6 ? 1 : 0, 0);
        w.set(6, 1, 1);
        w.set(5, 1, 20);
        Check.due("both by one who goes", w.over(24, 0), 65);
        Check.due("2", w.over(24, 1), 2);
        Check.due("no one truly went", w.told(6, 1) * 100 + w.told(5, 1), 120);
    }

    /** Promise 18: none, 0 and 1, 5 and 6; "(as of chain())": they are on no other ones; "MORE ARE DOWN", not as many. */
    private static void link() {
        UpperFloors one = of(9);
        Check.due("one house", one.link(24, 0), -1);
        Check.due("it is down", one.link(24, 1), 1);
        UpperFloors x = Check.under("weighs told;holds 9;hits 0;");
        for (int h = 0; h < 7; h++) x.house(0, h == 0 ? 50 : 0, 0);
        highs(x, 1, 0, 9, 9, 9, 9, 9);
        Check.due("0 is down alone, 1 now", x.link(24, 0), -1);
        Check.due("2", x.link(24, 1), 2);
        x.chain(0, 2);
        Check.due("1 and 2, so 2 is off 0's", x.link(24, 0), 12);
        Check.due("2", x.link(24, 1), 2);
        Check.due("too soon", x.link(0, 0), -1);
        Check.due("as now", x.link(0, 1), 1);
        x.set(1, 0, 9);
        Check.due("0 and 1 no more than 0 and 2", x.link(24, 0), 12);
        Check.due("0 alone", x.link(24, 1), 1);
        x.set(1, 0, 8);
        Check.due("0 and 1, the first", x.link(24, 0), 1);
        UpperFloors y = Check.under("weighs told;holds 9;hits 0;");
        for (int h = 0; h < 7; h++) y.house(0, h == 6 ? 20 : h == 5 ? 50 : 0, 0);
        y.chain(4, 6);
        highs(y, 9, 9, 9, 9, 9, 9, 0);
        Check.due("6 down now would rise, if it weighed less", y.link(24, 0), -1);
        UpperFloors z = of(50, 50, 0, 0, 0, 0, 0);
        z.chain(0, 5);
        z.chain(6, 1);
        Check.due("5 and 6 leave 0 and 1 alone", z.link(9, 0), 56);
        Check.due("2", z.link(9, 1), 2);
        Check.due("too soon", z.link(8, 0), -1);
        Check.due("too soon", z.link(8, 1), 0);
        z.chain(5, 6);
        Check.due("they are on it", z.link(9, 0), -1);
        Check.due("as now", z.link(9, 1), 2);
        UpperFloors w = of(0, 0, 0, 0, 0, 50, 50);
        w.chain(5, 6);
        highs(w, 1, 9, 9, 9, 9, 1, 1);
        Check.due("the other one, loosened, goes", w.link(1, 0), 5);
        Check.due("6 alone, for 0 can't carry", w.link(1, 1), 2);
    }

    /** Promise 19: none, one, of three chains; "if it isn't with all". */
    private static void frees() {
        UpperFloors x = of(9, 9, 9, 9, 9, 9, 9);
        Check.due("no chain, down", x.frees(0, 24, 0) * 10 + x.frees(0, 24, 1), -10);
        x.chain(6, 5);
        x.chain(1, 0);
        x.chain(3, 2);
        int[] pair = {1, 1, 23, 23, -1, 56, 56};
        for (int h = 0; h < 7; h++) {
            Check.due("without its own", x.frees(h, 9, 0), pair[h]);
            Check.due("one or none", x.frees(h, 9, 1), h == 4 ? 0 : 1);
            Check.due("too soon", x.frees(h, 8, 0), -1);
            Check.due("too soon", x.frees(h, 8, 1), 0);
        }
        x.set(5, 0, 0);
        Check.due("down with all", x.frees(5, 0, 0), -1);
        Check.due("down with all", x.frees(5, 0, 1), 0);
        UpperFloors y = of(0, 0);
        y.chain(0, 1);
        Check.due("not without either", y.frees(0, 24, 0), -1);
        Check.due("not without either", y.frees(0, 24, 1), 0);
    }

    /** Promise 20: "least, of like ones the highest (what 0; -1: it is -1 by all), when(h) then (1; -1)". */
    private static void hang() {
        UpperFloors x = of(9, 0, 0);
        x.set(0, 0, 5);
        Check.due("itself, at 0", x.hang(0, 0, 0) * 10 + x.hang(0, 0, 1), 0);
        Check.due("held, itself at 0", x.hang(1, 1, 0) * 10 + x.hang(1, 1, 1), 0);
        Check.due("of like ones the highest", x.hang(0, 1, 0), 9);
        Check.due("5 minutes by all", x.hang(0, 1, 1), 5);
        Check.due("-1 by all", x.hang(1, 0, 0), -1);
        Check.due("-1 by all", x.hang(1, 0, 1), -1);
        x.chain(0, 1);
        for (int high = 0; high <= 9; high++) {
            x.set(0, 0, high);
            x.set(1, 0, 9);
            Check.due("not above", x.hang(0, 1, 0), 9 - high);
            Check.due("so many minutes", x.hang(0, 1, 1), high);
        }
        Check.due("nothing truly hangs so", x.told(1, 0), 9);
        // On the ground and at 3 high the second one holds the chain till minute 5: better ones are above these.
        UpperFloors z = Check.under("weighs told;holds 50*(told=1)*(minute<5)*(high=0 or high=3);hits 0;");
        z.house(0, 20, 0);
        z.house(0, 1, 0);
        z.chain(0, 1);
        z.set(0, 0, 2);
        Check.due("7 is the highest of the best", z.hang(0, 1, 0), 7);
        Check.due("2 minutes", z.hang(0, 1, 1), 2);
        z.set(0, 0, 9);
        Check.due("from the ground alone", z.hang(0, 1, 0), 0);
        Check.due("later", z.hang(0, 1, 1), 14);
        // Both weigh alike at each height there is: none below 0 and none above 9 is tried.
        UpperFloors w = Check.under("weighs 9-9*(high<0)-9*(9<high);holds 0;hits 0;");
        w.house(0, 0, 0);
        w.house(0, 0, 0);
        w.chain(0, 1);
        w.set(0, 0, 1);
        for (int what = 0; what < 2; what++) Check.due("by no height", w.hang(0, 1, what), -1);
        UpperFloors y = of(9, 9, 9, 9, 9, 9, 0);
        y.chain(0, 6);
        Check.due("the last one, at 0", y.hang(0, 6, 0), 0);
        Check.due("9 minutes", y.hang(0, 6, 1), 9);
    }
}
