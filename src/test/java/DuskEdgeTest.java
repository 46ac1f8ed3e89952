import java.math.BigInteger;

/** Sections 1 (HOUSES, KINDS) and 2 (A DUSK, DRAWN) of the Terms: each sentence that names an edge. */
public final class DuskEdgeTest {
    /** The first lots of SEED 0, as they stand in tables of this row of numbers. */
    private static final int[] LOTS_OF_0 = {48271, 182605794, 1291394886, 1914720637, 2078669041, 407355683};

    public static void main(String[] args) {
        sevenHouses();
        atFirst();
        heavy();
        braked();
        aunt();
        stuck();
        late();
        asTheKindAbove();
        minutes();
        aloneAboveZero();
        aloneWeighsMore();
        chainUnlike();
        chainEnds();
        chainFree();
        chainByOne();
        greaterDoesNothing();
        runAlone();
        runInChains();
        hits();
        lots();
        lotsByChains();
        everyLot();
        notDrawn();
        Check.end();
    }

    private static String law(String weighs, String holds, String hits) {
        return "weighs " + weighs + ";holds " + holds + ";hits " + hits + ";";
    }

    private static UpperFloors one(String law, int kind, int told, int more, int high) {
        UpperFloors x = Check.under(law);
        x.house(kind, told, more);
        x.set(0, 0, high);
        return x;
    }

    /** Two houses on one chain, under a law by which TOLD is what they weigh, and 0 or so holds them. */
    private static UpperFloors two(int holds, int toldA, int highA, int toldB, int highB) {
        UpperFloors x = one(law("told", "" + holds, "speed"), 0, toldA, 0, highA);
        x.house(0, toldB, 0);
        x.set(1, 0, highB);
        x.chain(0, 1);
        return x;
    }

    /** The same two, the one behind the other or the other way round. */
    private static UpperFloors turned(boolean turn, int holds, int toldA, int highA, int toldB, int highB) {
        return turn ? two(holds, toldB, highB, toldA, highA) : two(holds, toldA, highA, toldB, highB);
    }

    private static void highs(String what, UpperFloors x, boolean turn, int n, int a, int b) {
        Check.due(what + ", the one", x.of(n, turn ? 1 : 0, 0), a);
        Check.due(what + ", the other", x.of(n, turn ? 0 : 1, 0), b);
    }

    // ---- HOUSES, KINDS

    /** "HOUSES are numbered from 0 on, 7 at most". */
    private static void sevenHouses() {
        UpperFloors x = new UpperFloors();
        for (int h = 0; h < 7; h++) {
            Check.due("not yet", x.told(h, 0), -5);
            Check.due("so many", x.count(0), h);
            Check.due("a house", x.house(h % 6, h, h), h);
        }
        Check.due("no eighth", x.house(0, 0, 0), -4);
        Check.due("no eighth", x.told(7, 0), -5);
        Check.due("seven", x.count(0), 7);
    }

    /** "HIGH (0 .. 9; 9 at first), PEOPLE (0 .. 20; 0 at first); on a CHAIN ..., or on none (at first)". */
    private static void atFirst() {
        UpperFloors x = new UpperFloors();
        for (int h = 0; h < 7; h++) {
            x.house(h % 6, 99, 9);
            Check.due("high", x.told(h, 0), 9);
            Check.due("people", x.told(h, 1), 0);
            Check.due("chain", x.told(h, 2), -1);
        }
        for (int high = 0; high <= 9; high++) {
            x.set(6, 0, high);
            Check.due("so high", x.told(6, 0), high);
        }
        for (int people = 0; people <= 20; people++) {
            x.set(6, 1, people);
            Check.due("so many", x.told(6, 1), people);
        }
    }

    /** "HEAVY: WEIGHS 3 times MORE more": MORE 0, 9; the text's least and greatest. */
    private static void heavy() {
        for (int more = 0; more <= 9; more++) {
            Check.due("0 and 3 times " + more, one(law("0", "0", "0"), 1, 0, more, 9).of(0, 0, 4), 3 * more);
            Check.due("999 and 3 times " + more, one(law("9999", "0", "0"), 1, 0, more, 9).of(0, 0, 4), 999 + 3 * more);
        }
    }

    /** "BRAKED: MORE more HOLDS it": what is as much doesn't go DOWN, 1 more does; MORE 0, 9; held by 99 and 9. */
    private static void braked() {
        for (int kind : new int[] {2, 4}) {
            for (int more = 0; more <= 9; more++) {
                // A STUCK one that is MORE high would not be free.
                int high = more == 9 ? 8 : more + 1;
                Check.due("as much", one(law("10+" + more, "10", "0"), kind, 0, more, high).of(1, 0, 1), 0);
                Check.due("1 more", one(law("11+" + more, "10", "0"), kind, 0, more, high).of(1, 0, 1), 1);
                Check.due("99 and as much", one(law("99+" + more, "9999", "0"), kind, 0, more, high).of(1, 0, 1), 0);
                Check.due("99 and 1 more", one(law("100+" + more, "9999", "0"), kind, 0, more, high).of(1, 0, 1), 1);
            }
        }
    }

    /** "AUNT: WEIGHS twice as much, if it is less than 5 HIGH": 4 is less, 5 isn't. */
    private static void aunt() {
        for (int high = 0; high <= 9; high++) {
            for (int more : new int[] {0, 9}) {
                int once = 7 + 3 * more;
                UpperFloors x = one(law("told", "0", "0"), 3, 7, more, high);
                Check.due("an aunt of " + high, x.of(0, 0, 4), high < 5 ? 2 * once : once);
                Check.due("the text alone", x.asks(0, 0, 0), 7);
            }
        }
        UpperFloors x = one(law("10", "19", "0"), 3, 0, 0, 5);
        Check.due("at 5 it is held", x.of(24, 0, 0), 5);
        x.set(0, 0, 4);
        Check.due("at 4 it isn't", x.of(24, 0, 0), 0);
        UpperFloors y = one(law("9999", "0", "0"), 3, 0, 9, 4);
        Check.due("twice 999 and 27", y.of(0, 0, 4), 2052);
        Check.due("an aunt of 0 high that weighs 0", one(law("0", "0", "0"), 3, 0, 0, 0).of(0, 0, 4), 0);
    }

    /** "STUCK: not FREE, if it is just MORE HIGH": neither 1 less nor 1 more. */
    private static void stuck() {
        for (int more = 0; more <= 9; more++) {
            for (int high = 1; high <= 9; high++) {
                UpperFloors x = one(law("99", "0", "0"), 4, 0, more, high);
                Check.due(high + " high, stuck at " + more, x.of(1, 0, 1), high == more ? 0 : 1);
                Check.due("to the end", x.of(24, 0, 0), more <= high ? more : 0);
            }
        }
    }

    /** "LATE: WEIGHS as much more as it is HIGH; FREE in minutes that are MORE or more". */
    private static void late() {
        for (int more = 0; more <= 9; more++) {
            UpperFloors x = one(law("99", "0", "0"), 5, 0, more, 9);
            Check.due("not ahead of minute " + more, x.of(more, 0, 1), 0);
            Check.due("in minute " + more, x.of(more + 1, 0, 1), 1);
            Check.due("in each one behind it", x.of(more + 9, 0, 0), 0);
        }
        for (int high = 0; high <= 9; high++) {
            UpperFloors x = one(law("30", "30+4", "0"), 5, 0, 0, high);
            Check.due("weighs", x.of(0, 0, 4), 30 + high);
            Check.due("4 high is held, 5 high isn't", x.of(1, 0, 1), high > 4 ? 1 : 0);
            Check.due("the text alone", x.asks(0, 0, 0), 30);
        }
    }

    /** "(Whatever isn't told is as of the KIND above.)" */
    private static void asTheKindAbove() {
        int[] weighs = {10, 37, 10, 37, 10, 19};
        for (int kind = 0; kind < 6; kind++) {
            UpperFloors x = one(law("10", "0", "0"), kind, 0, 9, 9);
            Check.due("kind " + kind + " weighs", x.of(0, 0, 4), weighs[kind]);
            boolean brakes = kind == 2 || kind == 4;
            int high = 8;
            int weighsAt8 = weighs[kind] - (kind == 5 ? 1 : 0);
            int least = weighsAt8 - (brakes ? 9 : 0);
            // Of minute 9 on a LATE one is free, too.
            for (int holds = least - 1; holds <= least; holds++) {
                UpperFloors y = one(law("10*(8<minute)", holds + "", "0"), kind, 0, 9, high);
                Check.due("kind " + kind + " held by " + holds, y.of(10, 0, 1), holds < least ? 1 : 0);
            }
        }
        for (int kind = 0; kind < 4; kind++) {
            for (int more = 0; more <= 9; more++) {
                Check.due("free at once", one(law("99", "0", "0"), kind, 0, more, 5).of(5, 0, 0), 0);
            }
        }
    }

    // ---- A DUSK

    /** "A DUSK of n MINUTES 0, 1, .. (n 0 .. 24)": none of 0, MINUTES 0 to 23 of 24. */
    private static void minutes() {
        for (int minute = 0; minute <= 24; minute++) {
            UpperFloors x = one(law("minute=" + minute, "0", "minute"), 0, 0, 0, 1);
            Check.due("of " + minute + " minutes not yet", x.of(minute, 0, 0), 1);
            if (minute == 24) continue;
            Check.due("of 1 more", x.of(minute + 1, 0, 0), 0);
            Check.due("its hit's minute", x.of(minute + 1, 0, 2), minute);
            Check.due("the hit says the minute, too", x.of(minute + 1, 0, 3), minute);
            Check.due("of 24", x.of(24, 0, 1), 1);
        }
    }

    /** "its floor goes DOWN, if it is above 0 HIGH": of 0 it neither moves nor hits, of 1 it does. */
    private static void aloneAboveZero() {
        for (int high = 0; high <= 9; high++) {
            UpperFloors x = one(law("999", "0", "7"), 0, 0, 0, high);
            Check.due("moves", x.of(24, 0, 1), high);
            Check.due("high", x.of(24, 0, 0), 0);
            Check.due("its last hit", x.of(24, 0, 2), high - 1);
            Check.due("its hits", x.of(24, 0, 3), high == 0 ? 0 : 7);
            Check.due("by one a minute", x.of(1, 0, 0), Math.max(0, high - 1));
        }
    }

    /** "and WEIGHS more than what HOLDS it": as much is not more. */
    private static void aloneWeighsMore() {
        int[][] pairs = {{0, 0}, {1, 0}, {0, 1}, {1, 1}, {2, 1}, {98, 99}, {99, 99}, {100, 99}, {999, 99}};
        for (int[] p : pairs) {
            UpperFloors x = one(law("" + p[0], "" + p[1], "0"), 0, 0, 0, 9);
            Check.due(p[0] + " held by " + p[1], x.of(1, 0, 0), p[0] > p[1] ? 8 : 9);
        }
    }

    /** "if they WEIGH unlike by more than what HOLDS both together"; "(of like ones: the other HOUSE's)". */
    private static void chainUnlike() {
        for (int i = 0; i < 2; i++) {
            boolean turn = i == 1;
            for (int holds : new int[] {0, 1, 20}) {
                for (int more = -1; more <= 1; more++) {
                    int unlike = 2 * holds + more;
                    if (unlike < 0) continue;
                    UpperFloors x = turned(turn, holds, 30 + unlike, 5, 30, 5);
                    highs("unlike by " + unlike + ", held by " + 2 * holds, x, turn, 1, more > 0 ? 4 : 5, more > 0 ? 6 : 5);
                }
            }
            // Each one's own holding counts: 3 for the one, 5 for the other.
            for (int told = 28; told <= 29; told++) {
                UpperFloors x = Check.under(law("told", "more", "0"));
                x.house(0, turn ? 20 : told, turn ? 5 : 3);
                x.house(0, turn ? told : 20, turn ? 3 : 5);
                x.set(0, 0, 5);
                x.set(1, 0, 5);
                x.chain(0, 1);
                highs("held by 3 and 5", x, turn, 1, told > 28 ? 4 : 5, told > 28 ? 6 : 5);
            }
        }
        highs("like ones, held by nothing", two(0, 9, 5, 9, 5), false, 24, 5, 5);
        Check.due("like ones never move", two(0, 9, 5, 9, 5).all(24, 3), 3);
    }

    /** "the one is above 0 HIGH, the other one below 9". */
    private static void chainEnds() {
        for (int i = 0; i < 2; i++) {
            boolean turn = i == 1;
            for (int high = 0; high <= 9; high++) {
                highs("down from " + high, turned(turn, 0, 9, high, 1, 0), turn, 1, Math.max(0, high - 1), high > 0 ? 1 : 0);
                highs("up from " + high, turned(turn, 0, 9, 9, 1, high), turn, 1, high < 9 ? 8 : 9, Math.min(9, high + 1));
                highs("to the ends", turned(turn, 0, 9, 9, 1, high), turn, 24, high, 9);
            }
            highs("both at their ends", turned(turn, 0, 9, 0, 1, 9), turn, 24, 0, 9);
        }
    }

    /** "both are FREE": the one that goes DOWN and the one that goes UP. */
    private static void chainFree() {
        for (int i = 0; i < 2; i++) {
            boolean turn = i == 1;
            for (int stuck = 0; stuck < 2; stuck++) {
                for (int more = 3; more <= 7; more++) {
                    UpperFloors x = freeing(turn, stuck, 4, more);
                    highs("stuck at " + more, x, turn, 1, more == 5 ? 5 : 4, more == 5 ? 5 : 6);
                }
                for (int n = 3; n <= 5; n++) {
                    UpperFloors x = freeing(turn, stuck, 5, 4);
                    highs("late", x, turn, n, n == 5 ? 4 : 5, n == 5 ? 6 : 5);
                }
            }
            UpperFloors x = Check.under(law("told", "0", "0"));
            x.house(turn ? 4 : 0, turn ? 1 : 50, 0);
            x.house(turn ? 0 : 4, turn ? 50 : 1, 0);
            x.set(turn ? 0 : 1, 0, 0);
            x.chain(0, 1);
            highs("stuck on the ground, of MORE 0", x, turn, 24, 9, 0);
            x.set(turn ? 0 : 1, 0, 1);
            highs("from 1 it goes up", x, turn, 24, 1, 9);
        }
    }

    /** The one of TOLD 50 goes down, that of TOLD 1 up, from 5 each; the one or the other is of a kind. */
    private static UpperFloors freeing(boolean turn, int which, int kind, int more) {
        UpperFloors x = Check.under(law("told", "0", "0"));
        for (int h = 0; h < 2; h++) {
            boolean goesDown = h == (turn ? 1 : 0);
            boolean ofKind = goesDown == (which == 0);
            x.house(ofKind ? kind : 0, goesDown ? 50 : 1, ofKind ? more : 0);
            x.set(h, 0, 5);
        }
        x.chain(0, 1);
        return x;
    }

    /** "goes DOWN, the other one goes UP, by one each": a minute, once. */
    private static void chainByOne() {
        for (int i = 0; i < 2; i++) {
            boolean turn = i == 1;
            UpperFloors x = turned(turn, 0, 9, 9, 1, 0);
            for (int n = 0; n <= 9; n++) {
                highs("behind " + n, x, turn, n, 9 - n, n);
                Check.due("moves", x.of(n, 0, 1), n);
                Check.due("moves", x.of(n, 1, 1), n);
                Check.due("together", x.all(n, 2), 9);
            }
        }
    }

    /** "(The greater HOUSE of a CHAIN does nothing by itself.)" */
    private static void greaterDoesNothing() {
        UpperFloors x = Check.under(law("told", "2", "0"));
        for (int h = 0; h < 7; h++) x.house(0, 50, 0);
        x.chain(0, 6);
        x.chain(4, 1);
        x.chain(2, 3);
        Check.due("only 5 is on none", x.all(24, 3), 127 - 32);
        x.chain(6, 6);
        Check.due("0 and 6, too", x.all(24, 3), 2 + 4 + 8 + 16);
    }

    /** "A RUN: how many MINUTES one behind the other a floor went DOWN; one that did not go DOWN in its turn has none." */
    private static void runAlone() {
        for (int high = 1; high <= 9; high++) {
            Check.due("a run of " + high, one(law("9", "0", "speed"), 0, 0, 0, high).of(24, 0, 3), high);
            for (int still = 0; still < high; still++) {
                UpperFloors x = one(law("not minute=" + still, "0", "speed"), 0, 0, 0, high);
                Check.due(high + " high, still in minute " + still, x.of(24, 0, 3), high - still);
            }
        }
        UpperFloors x = one(law("9", "0", "speed"), 0, 0, 0, 9);
        for (int n = 0; n <= 9; n++) {
            x.of(n, 0, 0);
            Check.due("no run comes from a dusk ahead", x.of(24, 0, 3), 9);
        }
        x.night(4);
        Check.due("nor from a night", x.of(24, 0, 3), 5);
        Check.due("every other minute", one(law("(minute=1)+(minute=3)+(minute=5)", "0", "speed"), 0, 0, 0, 3).of(24, 0, 3), 1);
    }

    /** A RUN in a CHAIN ends by a still MINUTE, by one UP, and by a HIT: "then it has none". */
    private static void runInChains() {
        for (int i = 0; i < 2; i++) {
            boolean turn = i == 1;
            int one = turn ? 1 : 0;
            // The one weighs 9 and the other 1, but in the minute told.
            String still = "told*(not minute=2)";
            String up = "told*(not minute=2)+(10-told)*(minute=2)";
            for (int high = 1; high <= 5; high++) {
                UpperFloors x = chain(turn, still, high, 0);
                Check.due("a run of " + high, x.of(24, one, 3), high <= 2 ? high : high - 2);
                UpperFloors y = chain(turn, up, high, 0);
                // In minute 2 it goes up: 1 and 2 high were down till then and come down once more, from 1.
                Check.due("an up minute, " + high + " high", y.of(24, one, 3), high <= 2 ? high + 1 : high - 2 + 1);
                Check.due("the last hit", y.of(24, one, 2), high <= 2 ? 3 : high + 1);
            }
        }
    }

    private static UpperFloors chain(boolean turn, String weighs, int high, int other) {
        UpperFloors x = Check.under(law(weighs, "0", "speed"));
        x.house(0, turn ? 1 : 9, 0);
        x.house(0, turn ? 9 : 1, 0);
        x.set(turn ? 1 : 0, 0, high);
        x.set(turn ? 0 : 1, 0, other);
        x.chain(1, 0);
        return x;
    }

    /** "A HIT: a floor that comes DOWN to 0: hits then, high being 0, speed its RUN (this MINUTE, too)". */
    private static void hits() {
        Check.due("high is 0 then", one(law("9", "0", "50 + high"), 0, 0, 0, 3).of(24, 0, 3), 50);
        Check.due("this minute, too", one(law("9", "0", "speed"), 0, 0, 0, 1).of(1, 0, 3), 1);
        Check.due("a run of 9", one(law("9", "0", "speed"), 0, 0, 0, 9).of(9, 0, 3), 9);
        Check.due("no hit at 1 high", one(law("9", "0", "9"), 0, 0, 0, 9).of(8, 0, 3), 0);
        Check.due("a floor that is down already hits not", one(law("9", "0", "9"), 0, 0, 0, 0).of(24, 0, 2), -1);
        Check.due("one that costs nothing is a hit", one(law("9", "0", "0"), 0, 0, 0, 2).of(24, 0, 2), 1);
        Check.due("it hits once", one(law("9", "0", "9"), 0, 0, 0, 1).of(24, 0, 3), 9);
        Check.due("speed is 0 in what weighs", one(law("(speed=0)*5", "4", "0"), 0, 0, 0, 5).of(24, 0, 1), 5);
        Check.due("speed is 0 in what holds", one(law("5", "5-(speed=0)", "0"), 0, 0, 0, 5).of(24, 0, 1), 5);
        Check.due("speed is 0 behind a dusk", one(law("5 + speed", "4", "0"), 0, 0, 0, 9).of(5, 0, 4), 5);
        UpperFloors x = turned(false, 0, 9, 3, 1, 8);
        Check.due("one that comes to 9 hits not", x.of(24, 1, 2), -1);
        Check.due("one that stops above 0 hits not", x.of(24, 0, 2), -1);
    }

    // ---- DRAWN

    /** Whether the chain 0-1 of a new object catches in minute 0. */
    private static boolean catches(int seed, int hundredth) {
        return two(0, 9, 1, 1, 1).drawn(seed, 1, hundredth) == 0;
    }

    /** "it CATCHES in that MINUTE, if LOT modulo 100 is below hundredth"; SEED 0, 99999; hundredth 0, 100. */
    private static void lots() {
        Check.due("71 is below 72", catches(0, 72) ? 1 : 0, 1);
        Check.due("71 is not below 71", catches(0, 71) ? 1 : 0, 0);
        for (int seed : new int[] {0, 1, 2, 50, 44487, 44488, 44489, 99998, 99999}) {
            long lot = (seed + 1L) * 48271 % 2147483647 % 100;
            for (int hundredth = 0; hundredth <= 100; hundredth++) {
                Check.holds("seed " + seed + ", " + hundredth, catches(seed, hundredth) == lot < hundredth);
            }
        }
        // Lots of 0 and of 99 modulo 100 show the ends of hundredth.
        int zero = seedOf(0);
        int most = seedOf(99);
        Check.holds("0 is not below 0", !catches(zero, 0));
        Check.holds("0 is below 1", catches(zero, 1));
        Check.holds("99 is not below 99", !catches(most, 99));
        Check.holds("99 is below 100", catches(most, 100));
        for (int seed = 0; seed < 200; seed++) {
            UpperFloors x = two(0, 9, 5, 1, 4);
            Check.due("0: it never catches", x.drawn(seed, 5, 0), 1);
            Check.due("100: it always does", x.drawn(seed, 24, 100), 0);
        }
    }

    private static int seedOf(int rest) {
        for (int seed = 0; ; seed++) if ((seed + 1L) * 48271 % 2147483647 % 100 == rest) return seed;
    }

    /** "MINUTE by MINUTE (all 24), for each CHAIN by its lesser HOUSE a LOT". */
    private static void lotsByChains() {
        // Of one chain, each minute's lot is the next one; of 71, 94, 86, 37, 41, 83 modulo 100.
        for (int hundredth = 0; hundredth <= 100; hundredth++) {
            for (int n = 1; n <= 6; n++) {
                int moves = 0;
                for (int i = 0; i < n; i++) if (LOTS_OF_0[i] % 100 >= hundredth) moves++;
                for (int high = 1; high <= 6; high++) {
                    int down = two(0, 9, high, 1, 2).drawn(0, n, hundredth);
                    Check.due(high + " high, " + n + " minutes, " + hundredth, down, moves >= high ? 1 : 0);
                }
            }
        }
        threeChains();
        int last = 0;
        for (int n = 23; n <= 24; n++) last = 10 * last + lastMinute(n);
        Check.due("the 24th minute, too", last, 1);
    }

    /** Chains 0-5, 1-3 and 2-4: lots 0, 1, 2 in minute 0, lots 3, 4, 5 in minute 1; house 6, on none, has none. */
    private static void threeChains() {
        int[] lesser = {0, 1, 2};
        int[] greater = {5, 3, 4};
        for (int which = 0; which < 3; which++) {
            for (int high = 1; high <= 2; high++) {
                for (int hundredth = 0; hundredth <= 100; hundredth += 1) {
                    UpperFloors x = Check.under(law("told", "0", "0"));
                    for (int h = 0; h < 7; h++) x.house(0, h < 3 ? 9 : 1, 0);
                    for (int c = 2; c >= 0; c--) x.chain(greater[c], lesser[c]);
                    x.set(lesser[which], 0, high);
                    x.set(greater[which], 0, 5);
                    int moves = 0;
                    for (int minute = 0; minute < high; minute++) if (LOTS_OF_0[3 * minute + which] % 100 >= hundredth) moves++;
                    Check.due("chain " + which + ", " + hundredth, x.drawn(0, high, hundredth), moves == high ? 1 : 0);
                }
            }
        }
    }

    /** A chain that can move in minute 23 alone: whether it is down behind n. */
    private static int lastMinute(int n) {
        UpperFloors x = Check.under(law("told*(minute=23)", "0", "0"));
        x.house(0, 9, 0);
        x.house(0, 1, 0);
        x.set(0, 0, 1);
        x.set(1, 0, 1);
        x.chain(0, 1);
        return x.drawn(0, n, 0);
    }

    /** "each further one the last times 48271 modulo 2147483647": each lot of all 24 MINUTES, of one, two, three CHAINS. */
    private static void everyLot() {
        BigInteger modulo = BigInteger.valueOf(2147483647);
        for (int chains = 1; chains <= 3; chains++) {
            for (int seed : new int[] {0, 7, 44488, 99999}) {
                for (int lot = 0; lot < 24 * chains; lot++) {
                    BigInteger value = BigInteger.valueOf(48271).modPow(BigInteger.valueOf(lot + 1), modulo)
                        .multiply(BigInteger.valueOf(seed + 1)).mod(modulo);
                    int rest = value.mod(BigInteger.valueOf(100)).intValue();
                    int minute = lot / chains;
                    UpperFloors x = inOneMinute(chains, lot % chains, minute);
                    String what = "lot " + lot + " of " + chains + " chains, seed " + seed;
                    Check.due(what + ", not below " + rest, x.drawn(seed, minute + 1, rest), 1);
                    Check.due(what + ", below 1 more", x.drawn(seed, minute + 1, rest + 1), 0);
                    Check.due(what + ", not yet", x.drawn(seed, minute, rest), 0);
                    Check.due(what + ", behind all 24", x.drawn(seed, 24, rest), 1);
                }
            }
        }
    }

    /** Chains 0-6, 1-5, 2-4, as many as told, that can move in one minute alone; by that which comes down to 0. */
    private static UpperFloors inOneMinute(int chains, int which, int minute) {
        UpperFloors x = Check.under(law("told*(minute=" + minute + ")", "0", "0"));
        for (int h = 0; h < 7; h++) x.house(0, h < 3 ? 9 : 1, h);
        for (int h = 0; h < 7; h++) x.set(h, 0, h == which ? 1 : 5);
        for (int c = 0; c < chains; c++) x.chain(6 - c, c);
        return x;
    }

    /** "(Where it is not DRAWN no CHAIN CATCHES.)" */
    private static void notDrawn() {
        UpperFloors x = two(0, 9, 5, 1, 4);
        Check.due("drawn, it catches", x.drawn(0, 5, 100), 0);
        Check.due("not drawn, it doesn't", x.of(5, 0, 0), 0);
        Check.due("not drawn, it doesn't", x.all(5, 0), 1);
        Check.due("not drawn, it doesn't", x.when(0), 5);
        Check.sheet(x, 0, 0, 0, 9);
        Check.due("not drawn, it doesn't", x.judge(0, 5), -1);
        Check.due("not drawn, it doesn't", x.times(0), (1 << 25) - (1 << 5));
        Check.due("not drawn, it doesn't", x.laws(0, 5), 3);
        Check.due("not drawn, it doesn't", x.thief(0, 5, 0), (1 << 21) - 1);
        Check.due("not drawn, it doesn't", x.bring(0, 5), 0);
        Check.due("not drawn, it doesn't", x.weight(0, 5, 1), 1);
        Check.due("not drawn, it doesn't", x.over(5, 1), 1);
        Check.due("not drawn, it doesn't", x.link(5, 1), 1);
        Check.due("not drawn, it doesn't", x.hang(0, 1, 1), 5);
        Check.due("not drawn, it doesn't", x.film(0, 5) + x.judge(0, 5), 2 - 1);
        Check.due("nor by night", x.night(5), 1);
        UpperFloors y = one(law("9", "0", "0"), 0, 0, 0, 5);
        Check.due("one on no chain is caught by none", y.drawn(0, 5, 100), 1);
    }
}
