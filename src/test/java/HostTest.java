/** Promises 32 to 36. */
public final class HostTest {
    public static void main(String[] args) {
        promise32();
        promise33();
        promise34();
        promise35();
        promise36();
        Check.end();
    }

    /** Number i of a sheet of ints, found by what judge() says of one house that is so high; -99: no height. */
    private static int number(UpperFloors x, int s, int sort, int i) {
        for (int high = 0; high <= 9; high++) {
            x.set(0, 0, high);
            x.sheet(3, sort, 1);
            if (x.copy(s, i, 3, 0, 1) != 1) return -98;
            if (x.judge(3, 0) == -1) return high;
        }
        return -99;
    }

    private static void numbers(String what, UpperFloors x, int s, int sort, int... due) {
        for (int i = 0; i < due.length; i++) Check.due(what + ", number " + i, number(x, s, sort, i), due[i]);
    }

    private static UpperFloors withHouse() {
        UpperFloors x = new UpperFloors();
        x.house(0, 0, 0);
        return x;
    }

    private static void promise32() {
        UpperFloors x = withHouse();
        for (int s = 0; s < 4; s++) Check.due("missing at first", x.cell(s, 0, 0), -11);
        Check.due("sheet -1", x.sheet(-1, 0, -1), -2);
        Check.due("sheet 4", x.sheet(4, 0, -1), -2);
        Check.due("sort -2", x.sheet(0, -2, -1), -2);
        Check.due("sort 3", x.sheet(0, 3, -1), -2);
        Check.due("n 41", x.sheet(0, 0, 41), -2);
        Check.due("n great", x.sheet(0, 0, Integer.MAX_VALUE), -2);
        Check.due("n -1", x.sheet(0, 2, -1), -14);
        Check.due("n small", x.sheet(0, 2, Integer.MIN_VALUE), -14);
        Check.due("missing still", x.cell(0, 0, 0), -11);
        for (int sort = 0; sort <= 2; sort++) {
            for (int n : new int[] {0, 1, 40}) {
                Check.due("a row", x.sheet(1, sort, n), 1);
                if (n > 0) Check.due("its last place", x.cell(1, n - 1, 1), 1);
                Check.due("behind its last place", x.cell(1, n, 1), -12);
            }
        }
        Check.sheet(x, 2, 2, 5, 6, 7);
        Check.due("a new row", x.sheet(2, 2, 3), 1);
        numbers("all 0", x, 2, 2, 0, 0, 0);
        Check.due("refused", x.sheet(2, 2, -1), -14);
        Check.due("it stays", x.cell(2, 2, 4), 1);
        numbers("it stays", x, 2, 2, 0, 0, 4);
        for (int n : new int[] {-1, 0, 41, Integer.MIN_VALUE}) {
            x.sheet(2, 1, 3);
            Check.due("missing", x.sheet(2, -1, n), 1);
            Check.due("missing", x.cell(2, 0, 0), -11);
        }
        Check.due("a missing sheet -1", x.sheet(-1, -1, 0), -2);
    }

    private static void promise33() {
        UpperFloors x = withHouse();
        Check.due("sheet -1", x.cell(-1, 0, 0), -2);
        Check.due("sheet 4", x.cell(4, 0, 0), -2);
        Check.due("missing ahead of the place", x.cell(0, -1, 0), -11);
        x.sheet(0, 0, 4);
        x.sheet(1, 1, 4);
        x.sheet(2, 2, 4);
        for (int s = 0; s < 3; s++) {
            Check.due("place -1", x.cell(s, -1, 0), -12);
            Check.due("place 4", x.cell(s, 4, 0), -12);
            Check.due("a far place", x.cell(s, Integer.MAX_VALUE, 0), -12);
            Check.due("a far place", x.cell(s, Integer.MIN_VALUE, 0), -12);
            Check.due("place 0", x.cell(s, 0, 256 + 5), 1);
            Check.due("place 1", x.cell(s, 1, 65536 + 6), 1);
            Check.due("place 2", x.cell(s, 2, -256 + 7), 1);
            Check.due("place 3", x.cell(s, 3, 8), 1);
        }
        numbers("bytes", x, 0, 0, 5, 6, 7, 8);
        numbers("shorts", x, 1, 1, -99, 6, -99, 8);
        numbers("ints", x, 2, 2, -99, -99, -99, 8);
    }

    private static void promise34() {
        UpperFloors x = withHouse();
        Check.due("sheet -1", x.copy(-1, 0, 0, 0, 0), -2);
        Check.due("sheet 4", x.copy(0, 0, 4, 0, 0), -2);
        Check.due("sheet 4", x.copy(4, 0, 0, 0, 0), -2);
        Check.due("sheet -1", x.copy(0, 0, -1, 0, 0), -2);
        Check.due("both missing", x.copy(0, -1, 1, -1, -1), -11);
        Check.sheet(x, 0, 2, 1, 2, 3, 4, 5);
        Check.due("the other is missing", x.copy(0, -1, 1, 0, 0), -11);
        Check.due("the one is missing", x.copy(1, -1, 0, 0, 0), -11);
        x.sheet(1, 1, 5);
        Check.due("unlike sorts ahead of the place", x.copy(0, -1, 1, 0, 0), -13);
        Check.due("unlike sorts, none to come", x.copy(0, 0, 1, 0, 0), -13);
        x.sheet(1, 2, 4);
        int[][] wrong = {{-1, 0, 1}, {0, -1, 1}, {0, 0, -1}, {5, 0, 1}, {0, 4, 1}, {3, 0, 3}, {0, 2, 3}, {6, 0, 0}, {0, 5, 0},
            {0, 0, 5}, {1, 0, Integer.MAX_VALUE}, {Integer.MAX_VALUE, 0, 1}, {0, Integer.MAX_VALUE, 1},
            {Integer.MAX_VALUE, 0, Integer.MAX_VALUE}, {0, 0, Integer.MIN_VALUE}, {Integer.MIN_VALUE, 0, 1},
            {0, Integer.MIN_VALUE, Integer.MIN_VALUE}, {-1, -1, -1}};
        for (int[] w : wrong) Check.due("outside", x.copy(0, w[0], 1, w[1], w[2]), -12);
        numbers("nothing came", x, 1, 2, 0, 0, 0, 0);
        Check.due("none", x.copy(0, 5, 1, 4, 0), 0);
        Check.due("two", x.copy(0, 3, 1, 1, 2), 2);
        numbers("two came", x, 1, 2, 0, 4, 5, 0);
        numbers("they stay, too", x, 0, 2, 1, 2, 3, 4, 5);
        Check.due("within its own, up", x.copy(0, 0, 0, 1, 4), 4);
        numbers("as they were", x, 0, 2, 1, 1, 2, 3, 4);
        Check.due("within its own, down", x.copy(0, 2, 0, 1, 3), 3);
        numbers("as they were", x, 0, 2, 1, 2, 3, 4, 4);
        Check.due("all", x.copy(0, 0, 0, 0, 5), 5);
        for (int sort = 0; sort <= 1; sort++) {
            Check.sheet(x, 1, sort, 9, 8, 7);
            x.sheet(2, sort, 3);
            Check.due("of sort " + sort, x.copy(1, 0, 2, 1, 2), 2);
            numbers("of sort " + sort, x, 2, sort, 0, 9, 8);
        }
    }

    private static void houses(UpperFloors x, int[]... due) {
        Check.due("houses", x.count(0), due.length);
        for (int h = 0; h < due.length; h++) {
            for (int i = 0; i < 3; i++) Check.due("house " + h, x.told(h, 3 + i), due[h][i]);
        }
    }

    private static void promise35() {
        UpperFloors x = new UpperFloors();
        int[][] wrong = {{-1, 0, 0, 1}, {4, 0, 0, 1}, {0, -1, 0, 1}, {0, 3, 0, 1}, {0, 0, 0, -1}, {0, 0, 0, 8}};
        for (int[] w : wrong) Check.due("bad", x.housesBy(w[0], w[1], w[2], w[3]), -2);
        Check.due("missing ahead of the place", x.housesBy(0, 0, -1, 1), -11);
        Check.sheet(x, 0, 1, 7, 3, 40, 5, 6, 0, 0, 5, 99, 9, 0, 1);
        Check.due("another sort ahead of the place", x.housesBy(0, 0, -1, 1), -13);
        Check.due("another sort", x.housesBy(0, 2, 0, 1), -13);
        for (int[] w : wrong) Check.due("bad", x.housesBy(w[0], w[1], w[2], w[3]), -2);
        Check.due("none", x.housesBy(0, 1, 0, 0), 0);
        houses(x);
        Check.due("two of three", x.housesBy(0, 1, 1, 3), 2);
        houses(x, new int[] {3, 40, 5}, new int[] {5, 99, 9});
        Check.due("their high", x.told(0, 0), 9);
        Check.due("the last has no room", x.housesBy(0, 1, 7, 2), -12);
        houses(x, new int[] {3, 40, 5}, new int[] {5, 99, 9}, new int[] {5, 99, 9});
        for (int at : new int[] {-1, 10, 12, -3, Integer.MAX_VALUE, Integer.MIN_VALUE}) {
            Check.due("outside", x.housesBy(0, 1, at, 7), -12);
        }
        Check.due("the last three, of no kind", x.housesBy(0, 1, 9, 1), 0);
        Check.due("a kind that is none, and outside", x.housesBy(0, 1, 4, 3), -12);
        Check.due("one came ahead", x.count(0), 4);
        Check.due("its place", x.told(3, 4), 99);
        Check.due("till there are 7", x.housesBy(0, 1, 1, 3), 2);
        Check.due("others are left out", x.housesBy(0, 1, 1, 3), 1);
        Check.due("7", x.count(0), 7);
        Check.due("all are left out", x.housesBy(0, 1, 7, 1), 0);
        Check.due("full, and outside", x.housesBy(0, 1, 7, 2), -12);
        sorts();
    }

    private static void sorts() {
        for (int sort = 0; sort <= 2; sort += 2) {
            UpperFloors x = new UpperFloors();
            Check.sheet(x, 3, sort, 1, 200, 3, 256 + 1, 20, 3, 4, 5, 6);
            Check.due("of sort " + sort, x.housesBy(3, sort, 0, 3), sort == 0 ? 2 : 1);
            if (sort == 0) houses(x, new int[] {1, 20, 3}, new int[] {4, 5, 6});
            else houses(x, new int[] {4, 5, 6});
        }
        UpperFloors y = new UpperFloors();
        y.sheet(0, 0, 21);
        Check.due("seven", y.housesBy(0, 0, 0, 7), 7);
    }

    private static void promise36() {
        UpperFloors x = new UpperFloors();
        int[][] isOf = {{1, 0, 0, 0, 0, 0}, {1, 1, 0, 0, 0, 0}, {1, 0, 1, 0, 0, 0}, {1, 1, 0, 1, 0, 0}, {1, 0, 1, 0, 1, 0},
            {1, 0, 0, 0, 0, 1}};
        for (int kind = 0; kind < 6; kind++) {
            Check.due("not there yet", x.taken(kind, 0), -11);
            x.house(kind, 0, 0);
            for (int as = 0; as < 6; as++) Check.due(kind + " as " + as, x.taken(kind, as), isOf[kind][as] == 1 ? kind : -13);
            Check.due("a house as people", x.taken(kind, 6), -13);
        }
        for (int i = 0; i < 7; i++) Check.due("nobody in", x.taken(7 + i, 6), -11);
        Check.due("nobody in, as a house", x.taken(7, 0), -11);
        x.set(0, 1, 20);
        x.set(5, 1, 1);
        Check.due("20", x.taken(7, 6), 20);
        Check.due("1", x.taken(12, 6), 1);
        for (int as = 0; as < 6; as++) Check.due("people as a house", x.taken(7, as), -13);
        Check.due("no house 6", x.taken(6, 0), -11);
        Check.due("no people there", x.taken(13, 6), -11);
        Check.due("place -1", x.taken(-1, 0), -12);
        Check.due("place 14", x.taken(14, 6), -12);
        Check.due("kind -1 ahead of the place", x.taken(14, -1), -2);
        Check.due("kind 7 ahead of the place", x.taken(-1, 7), -2);
        Check.due("kind 7", x.taken(0, 7), -2);
        x.image();
        x.house(0, 0, 0);
        x.set(6, 1, 9);
        Check.due("9", x.taken(13, 6), 9);
        x.back();
        Check.due("it is none", x.taken(6, 0), -11);
        Check.due("nobody there", x.taken(13, 6), -11);
        x.house(5, 0, 0);
        Check.due("nobody there yet", x.taken(13, 6), -11);
        Check.due("of its new kind", x.taken(6, 5), 6);
    }
}
