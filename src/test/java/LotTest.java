/** Promises 28 to 31. */
public final class LotTest {
    public static void main(String[] args) {
        promise28();
        promise29();
        promise30And31();
        Check.end();
    }

    /** Chains 0-3 and 1-2, 0 and 1 going down from the heights told. */
    private static UpperFloors chained(int high0, int high1) {
        UpperFloors x = new UpperFloors();
        int[] told = {50, 50, 0, 0};
        int[] high = {high0, high1, 0, 0};
        for (int h = 0; h < 4; h++) {
            x.house(0, told[h], 0);
            x.set(h, 0, high[h]);
        }
        x.chain(3, 0);
        x.chain(1, 2);
        return x;
    }

    /** The lots by the document's words, in long hand. */
    private static long lot(int seed, int number) {
        long lot = seed + 1;
        for (int i = 0; i <= number; i++) lot = lot * 48271 % 2147483647;
        return lot;
    }

    private static void promise28() {
        UpperFloors x = chained(1, 1);
        int[][] wrong = {{-1, 0, 0}, {100000, 0, 0}, {0, -1, 0}, {0, 25, 0}, {0, 0, -1}, {0, 0, 101}};
        for (int[] w : wrong) Check.due("bad", x.drawn(w[0], w[1], w[2]), -2);
        Check.due("the ends", x.drawn(0, 0, 0), 2);
        Check.due("the ends", x.drawn(99999, 24, 100), 2);
        // Each seed's first lot is chain 0-3's, its second one chain 1-2's; of 1 high, a floor is down behind one move.
        for (int seed = 0; seed < 40; seed++) {
            for (int hundredth = 0; hundredth <= 100; hundredth += 10) {
                int down = 2;
                UpperFloors y = chained(1, 9);
                boolean first = lot(seed, 0) % 100 < hundredth;
                boolean second = lot(seed, 1) % 100 < hundredth;
                // 0 down and 3 up, or neither; 1 stays above, 2 goes up with it, or neither.
                if (!second) down--;
                Check.due("drawn(" + seed + ", 1, " + hundredth + ")", y.drawn(seed, 1, hundredth), down);
                UpperFloors z = chained(9, 1);
                Check.due("drawn the other way", z.drawn(seed, 1, hundredth), first ? 2 : 1);
            }
        }
        laterMinutes();
        Check.due("no chain catches", x.drawn(5, 3, 0), 2);
        Check.due("nothing truly moved", x.told(0, 0), 1);
        Check.due("no houses", new UpperFloors().drawn(1, 1, 1), 0);
    }

    /** How far chain 0-3 goes in 9 minutes is told by every other lot from the first on. */
    private static void laterMinutes() {
        for (int seed = 99960; seed <= 99999; seed++) {
            int moves = 0;
            for (int minute = 0; minute < 9; minute++) if (lot(seed, 2 * minute) % 100 >= 35) moves++;
            UpperFloors x = chained(moves, 9);
            UpperFloors y = chained(Math.min(9, moves + 1), 9);
            x.set(1, 0, 0);
            y.set(1, 0, 0);
            x.set(2, 0, 9);
            y.set(2, 0, 9);
            x.set(3, 0, 0);
            Check.due("so far", x.drawn(seed, 9, 35), moves == 0 ? 3 : 2);
            if (moves < 9) Check.due("no farther", y.drawn(seed, 9, 35), moves == 0 ? 2 : 1);
        }
    }

    private static void promise29() {
        UpperFloors x = new UpperFloors();
        int[][] wrong = {{-1, 0, 0, 0}, {100000, 0, 0, 0}, {0, -1, 0, 0}, {0, 25, 0, 0}, {0, 0, -1, 0}, {0, 0, 101, 0},
            {0, 0, 0, -1}, {0, 0, 0, 2}};
        for (int[] w : wrong) Check.due("none such", x.odds(w[0], w[1], w[2], w[3]), UpperFloors.NO);
        Check.due("no houses", x.odds(0, 0, 0, 0), 1);
        Check.due("no houses", x.odds(0, 0, 0, 1), 1);
        x.house(0, 0, 0);
        x.house(0, 50, 0);
        x.set(0, 0, 1);
        x.set(1, 0, 0);
        x.chain(0, 1);
        Check.due("never", x.odds(0, 24, 50, 0), 0);
        Check.due("never", x.odds(0, 24, 50, 1), 1);
        x.set(0, 0, 0);
        Check.due("at once", x.odds(0, 24, 50, 0), 1);
        Check.due("at once", x.odds(0, 24, 50, 1), 1);
        UpperFloors y = chained(9, 9);
        y.house(0, 50, 0);
        Check.due("above, of 0", y.odds(3, 24, 50, 0), 0);
        Check.due("below, of 0", y.odds(3, 24, 50, 1), 1);
        // A chain's floors are together as high as ever: all down needs both down at first, and they stay so.
        y.set(0, 0, 0);
        y.set(1, 0, 0);
        Check.due("the fifth comes down in 9", y.odds(99999, 9, 50, 0), 1);
        Check.due("the fifth comes down in 9", y.odds(99999, 9, 50, 1), 1);
        Check.due("not in 8", y.odds(99999, 8, 50, 0), 0);
        Check.due("not in 8", y.odds(99999, 8, 50, 1), 1);
        Check.due("nothing truly moved", y.told(4, 0), 9);
    }

    private static void promise30And31() {
        UpperFloors x = new UpperFloors();
        Check.due("there is none", x.back(), -3);
        Check.due("of no houses", x.image(), 0);
        x.house(0, 10, 0);
        x.house(3, 20, 5);
        x.house(5, 30, 6);
        Check.due("they are none", x.back(), 0);
        Check.due("they are none", x.count(0), 0);
        x.house(0, 10, 0);
        x.house(3, 20, 5);
        x.house(5, 30, 6);
        x.set(0, 0, 4);
        x.set(1, 1, 7);
        x.chain(0, 2);
        Check.text(x, "weighs 1;holds 1;hits 1;");
        x.force(1);
        Check.due("of 3", x.image(), 3);
        Check.text(x, "weighs 2;holds 2;hits 2;");
        for (int again = 0; again < 2; again++) {
            x.force(2);
            x.set(0, 0, 1);
            x.set(1, 0, 0);
            x.set(1, 1, 20);
            x.set(2, 1, 1);
            x.chain(2, 1);
            x.house(4, 9, 9);
            x.house(4, 8, 8);
            x.set(3, 0, 5);
            x.set(3, 1, 5);
            x.chain(4, 0);
            Check.feed(x, "we");
            Check.due("back to 3", x.back(), 3);
            Check.due("houses", x.count(0), 3);
            Check.due("chains", x.count(1), 1);
            Check.due("people", x.count(2), 7);
            Check.due("texts stay", x.count(3), 3);
            Check.due("the law", x.count(4), 1);
            Check.due("the tape stays", x.count(5), 2 * (again + 1));
            int[][] due = {{4, 0, 2, 0, 10, 0}, {9, 7, -1, 3, 20, 5}, {9, 0, 0, 5, 30, 6}};
            for (int h = 0; h < 3; h++) {
                for (int what = 0; what < 6; what++) Check.due("told", x.told(h, what), due[h][what]);
            }
            Check.due("house 3 is none", x.told(3, 0), -5);
        }
        Check.due("a house of its number", x.house(2, 77, 7), 3);
        int[] due = {9, 0, -1, 2, 77, 7};
        for (int what = 0; what < 6; what++) Check.due("told anew", x.told(3, what), due[what]);
        Check.due("a new image", x.image(), 4);
        x.set(3, 0, 3);
        Check.due("back to 4", x.back(), 4);
        Check.due("as kept", x.told(3, 0), 9);
        Check.sheet(x, 0, 0, 1);
        x.back();
        Check.due("sheets stay", x.cell(0, 0, 0), 1);
    }
}
