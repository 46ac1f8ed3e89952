/** Promises 32 to 36, each by its own edges, and SHEETS of section 2. */
public final class HostEdgeTest {
    private static final int MIN = Integer.MIN_VALUE, MAX = Integer.MAX_VALUE;

    public static void main(String[] args) {
        missingAtFirst();
        sizes();
        allZero();
        missing();
        bytes();
        shorts();
        ints();
        copy();
        copyAsTheyWere();
        copyOfNone();
        housesBy();
        housesByLeftOut();
        housesByOutside();
        housesByCut();
        takenHouses();
        takenPeople();
        Check.end();
    }

    private static UpperFloors home() {
        UpperFloors x = new UpperFloors();
        x.house(0, 0, 0);
        return x;
    }

    private static final int[] GREAT = {10, 99, 127, 128, 200, 254, 255, 256, 32767, 32768, 65535, MAX, MIN, -1, -2};

    /** Number i of a sheet of a sort, as a height that sheet 3, of one number, tells of the one house; -1: it is none. */
    private static int number(UpperFloors x, int s, int sort, int i) {
        x.sheet(3, sort, 1);
        x.copy(s, i, 3, 0, 1);
        for (int high = 0; high <= 9; high++) {
            x.set(0, 0, high);
            if (x.judge(3, 0) == -1) return high;
        }
        return -1;
    }

    private static void row(String what, UpperFloors x, int s, int sort, int... due) {
        for (int i = 0; i < due.length; i++) Check.due(what + ", number " + i, number(x, s, sort, i), due[i]);
        Check.due(what + ", no number more", x.cell(s, due.length, 0), -12);
    }

    private static void fill(UpperFloors x, int s, int sort, int... row) {
        Check.sheet(x, s, sort, row);
    }

    // ---- SHEETS

    /** "SHEETS 0 .. 3 are rows of numbers, or missing (as all are at first)". */
    private static void missingAtFirst() {
        UpperFloors x = home();
        for (int s = 0; s < 4; s++) {
            Check.due("cell", x.cell(s, 0, 0), -11);
            Check.due("copy", x.copy(s, 0, s, 0, 0), -11);
            Check.due("housesBy", x.housesBy(s, 0, 0, 0), -11);
            Check.due("judge", x.judge(s, 0), -11);
            Check.due("times", x.times(s), -11);
            Check.due("laws", x.laws(s, 0), -11);
            Check.due("thief", x.thief(s, 0, 0), -11);
        }
        for (int s : new int[] {-1, 4}) {
            Check.due("cell", x.cell(s, 0, 0), -2);
            Check.due("film", x.film(s, 0), -2);
            Check.due("sheet", x.sheet(s, 0, 1), -2);
            Check.due("sheet", x.sheet(s, -1, 1), -2);
        }
        for (int s = 0; s < 4; s++) Check.due("each becomes a row", x.sheet(s, 0, s), 1);
        for (int s = 0; s < 4; s++) Check.due("each its own", x.cell(s, s, 0), -12);
        for (int s = 1; s < 4; s++) Check.due("each its own", x.cell(s, s - 1, 0), 1);
    }

    /** "40 at most"; "a row of n": 0, 1, 39, 40; "n above 40; -14". */
    private static void sizes() {
        UpperFloors x = home();
        for (int sort = 0; sort < 3; sort++) {
            for (int n : new int[] {0, 1, 39, 40}) {
                Check.due("a row of " + n, x.sheet(2, sort, n), 1);
                if (n > 0) Check.due("its first", x.cell(2, 0, 1), 1);
                if (n > 0) Check.due("its last", x.cell(2, n - 1, 1), 1);
                Check.due("no more", x.cell(2, n, 1), -12);
                Check.due("no less", x.cell(2, -1, 1), -12);
                Check.due("it has so many", x.copy(2, 0, 2, 0, n), n);
                Check.due("no more", x.copy(2, 0, 2, 0, n + 1), -12);
            }
            for (int n : new int[] {41, 42, MAX}) Check.due("above 40", x.sheet(2, sort, n), -2);
            for (int n : new int[] {-1, -2, -40, MIN}) Check.due("below 0", x.sheet(2, sort, n), -14);
            Check.due("as it was", x.cell(2, 39, 1), 1);
        }
        for (int n : new int[] {41, -1}) {
            for (int sort : new int[] {-2, 3}) Check.due("sort ahead of n", x.sheet(0, sort, n), -2);
            Check.due("sheet ahead of n", x.sheet(4, 0, n), -2);
        }
    }

    /** "all 0": also where other numbers stood, in a shorter or a longer row, of whatever sort. */
    private static void allZero() {
        for (int sort = 0; sort < 3; sort++) {
            UpperFloors x = home();
            fill(x, 0, sort, 1, 2, 3, 4);
            x.sheet(0, sort, 2);
            row("shorter", x, 0, sort, 0, 0);
            x.sheet(0, sort, 4);
            row("longer again", x, 0, sort, 0, 0, 0, 0);
            fill(x, 0, 2 - sort, 5, 6);
            x.sheet(0, sort, 2);
            row("of another sort", x, 0, sort, 0, 0);
            fill(x, 0, sort, 5, 6);
            x.sheet(0, -1, 0);
            x.sheet(0, sort, 2);
            row("behind missing", x, 0, sort, 0, 0);
        }
    }

    /** "or missing (sort -1: n does not matter)". */
    private static void missing() {
        for (int n : new int[] {MIN, -15, -1, 0, 40, 41, MAX}) {
            UpperFloors x = home();
            Check.due("a missing one", x.sheet(1, -1, n), 1);
            Check.due("missing", x.cell(1, 0, 0), -11);
            x.sheet(1, 1, 40);
            Check.due("one that was there", x.sheet(1, -1, n), 1);
            Check.due("missing", x.cell(1, 0, 0), -11);
            Check.due("it is missing ahead of its place", x.cell(1, -1, 0), -11);
        }
    }

    // ---- cell

    /** "of bytes its lowest 8 bits". */
    private static void bytes() {
        cut(0, 256);
    }

    /** "of shorts its lowest 16 bits". */
    private static void shorts() {
        cut(1, 65536);
    }

    private static void cut(int sort, int modulo) {
        for (int high = 0; high <= 9; high++) {
            for (int times : new int[] {-3, -1, 0, 1, 2, 1000, -1000}) {
                UpperFloors x = home();
                x.sheet(0, sort, 3);
                Check.due("a number", x.cell(0, 1, high + times * modulo), 1);
                row(high + " and " + times + " times " + modulo, x, 0, sort, 0, high, 0);
            }
        }
        for (int great : GREAT) {
            UpperFloors x = home();
            x.sheet(0, sort, 2);
            x.cell(0, 0, great);
            int cut = Math.floorMod(great, modulo);
            row(great + " cut", x, 0, sort, cut <= 9 ? cut : -1, 0);
        }
    }

    /** An int is cut nowhere. */
    private static void ints() {
        for (int great : new int[] {256, 257, 65536, 65537, 1 << 24, 1 << 31, 10, -1, MAX}) {
            UpperFloors x = home();
            x.sheet(0, 2, 2);
            Check.due("a number", x.cell(0, 0, great), 1);
            row("" + great, x, 0, 2, -1, 0);
        }
    }

    // ---- copy

    /** "n numbers of a SHEET, from i on, come to another one's (or its own) place j": the ends of both rows. */
    private static void copy() {
        for (int sort = 0; sort < 3; sort++) {
            UpperFloors x = home();
            fill(x, 0, sort, 1, 2, 3, 4);
            x.sheet(1, sort, 3);
            Check.due("the first to the last", x.copy(0, 0, 1, 2, 1), 1);
            row("the first to the last", x, 1, sort, 0, 0, 1);
            Check.due("the last to the first", x.copy(0, 3, 1, 0, 1), 1);
            row("the last to the first", x, 1, sort, 4, 0, 1);
            Check.due("as many as have room", x.copy(0, 1, 1, 0, 3), 3);
            row("as many as have room", x, 1, sort, 2, 3, 4);
            int[][] outside = {{0, 0, 4}, {2, 0, 3}, {0, 1, 3}, {4, 0, 1}, {0, 3, 1}, {-1, 0, 1}, {0, -1, 1}, {0, 0, -1},
                {5, 0, 0}, {0, 4, 0}, {-1, 0, 0}, {0, -1, 0}, {1, 0, MAX}, {0, 1, MAX}, {MAX, 0, MAX}, {MAX, MAX, 1},
                {0, 0, MIN}, {MIN, 0, 1}, {0, MIN, 1}, {1, 1, MIN}, {MIN, MIN, MIN}};
            for (int[] o : outside) Check.due("outside", x.copy(0, o[0], 1, o[1], o[2]), -12);
            row("nothing came", x, 1, sort, 2, 3, 4);
            row("they stay", x, 0, sort, 1, 2, 3, 4);
        }
        UpperFloors y = home();
        for (int s = 0; s < 3; s++) y.sheet(s, s, 2);
        for (int a = 0; a < 3; a++) {
            for (int b = 0; b < 3; b++) {
                Check.due("sorts " + a + " and " + b, y.copy(a, 0, b, 0, 2), a == b ? 2 : -13);
                Check.due("the sort ahead of the place", y.copy(a, 9, b, 9, 9), a == b ? -12 : -13);
            }
            Check.due("missing ahead of the sort", y.copy(a, 9, 3, 9, 9), -11);
            Check.due("missing ahead of the sort", y.copy(3, 9, a, 9, 9), -11);
        }
        fillGreat();
    }

    /** What doesn't fit a height comes, too, as it is: a house by it is TOLD so much. */
    private static void fillGreat() {
        for (int sort = 0; sort < 3; sort++) {
            UpperFloors x = new UpperFloors();
            fill(x, 0, sort, 5, 99, 9);
            x.sheet(1, sort, 40);
            Check.due("to the row's end", x.copy(0, 0, 1, 37, 3), 3);
            Check.due("a house", x.housesBy(1, sort, 37, 1), 1);
            Check.due("as told", x.told(0, 3) * 1000 + x.told(0, 4) * 10 + x.told(0, 5), 5999);
        }
    }

    /** "(or its own) .. (as they were)": places that lie over one another, up and down. */
    private static void copyAsTheyWere() {
        for (int sort = 0; sort < 3; sort++) {
            for (int i = 0; i < 5; i++) {
                for (int j = 0; j < 5; j++) {
                    int n = 5 - Math.max(i, j);
                    int[] due = {1, 2, 3, 4, 5};
                    for (int k = 0; k < n; k++) due[j + k] = 1 + i + k;
                    UpperFloors x = home();
                    fill(x, 0, sort, 1, 2, 3, 4, 5);
                    Check.due("so many", x.copy(0, i, 0, j, n), n);
                    row("from " + i + " to " + j, x, 0, sort, due);
                }
            }
        }
    }

    /** None come: from any place within, right behind the last one, too. */
    private static void copyOfNone() {
        UpperFloors x = home();
        fill(x, 0, 2, 1, 2);
        x.sheet(1, 2, 0);
        for (int i = 0; i <= 2; i++) Check.due("none to a row of none", x.copy(0, i, 1, 0, 0), 0);
        Check.due("none of a row of none", x.copy(1, 0, 0, 2, 0), 0);
        Check.due("one to a row of none", x.copy(0, 0, 1, 0, 1), -12);
        Check.due("one of a row of none", x.copy(1, 0, 0, 0, 1), -12);
        row("as it was", x, 0, 2, 1, 2);
    }

    // ---- housesBy

    private static String houses(UpperFloors x) {
        StringBuilder all = new StringBuilder();
        for (int h = 0; h < x.count(0); h++) {
            all.append(x.told(h, 3)).append('/').append(x.told(h, 4)).append('/').append(x.told(h, 5)).append(' ');
        }
        return all.toString();
    }

    private static void came(String what, UpperFloors x, String due) {
        Check.holds(what + ": " + houses(x), houses(x).equals(due));
    }

    /** "from a place on, three by three (as of house()), n of them (0 .. 7): how many came". */
    private static void housesBy() {
        for (int sort = 0; sort < 3; sort++) {
            for (int n = 0; n <= 7; n++) {
                UpperFloors x = new UpperFloors();
                x.sheet(0, sort, 22);
                for (int i = 0; i < 21; i++) x.cell(0, 1 + i, i % 3 == 0 ? i / 3 % 6 : i % 3 == 1 ? 90 + i / 3 : i / 3);
                Check.due("so many", x.housesBy(0, sort, 1, n), n);
                Check.due("so many", x.count(0), n);
                for (int h = 0; h < n; h++) {
                    Check.due("kind", x.told(h, 3), h % 6);
                    Check.due("told", x.told(h, 4), 90 + h);
                    Check.due("more", x.told(h, 5), h);
                    Check.due("high", x.told(h, 0), 9);
                }
                for (int bad : new int[] {-1, 8, MIN, MAX}) Check.due("n", x.housesBy(0, sort, 1, bad), -2);
            }
        }
    }

    /** "(others are left out)": those that house() refuses, as BAD or as FULL; those behind them come. */
    private static void housesByLeftOut() {
        int[][] bad = {{-1, 1, 1}, {6, 1, 1}, {1, -1, 1}, {1, 100, 1}, {1, 1, -1}, {1, 1, 10}};
        for (int[] b : bad) {
            UpperFloors x = new UpperFloors();
            fill(x, 0, 2, b[0], b[1], b[2], 2, 50, 5, b[0], b[1], b[2], 0, 0, 0);
            Check.due("two of four", x.housesBy(0, 2, 0, 4), 2);
            came("two of four", x, "2/50/5 0/0/0 ");
            Check.due("none of one", x.housesBy(0, 2, 6, 1), 0);
        }
        for (int there = 0; there <= 7; there++) {
            UpperFloors x = new UpperFloors();
            for (int h = 0; h < there; h++) x.house(1, 1, 1);
            x.sheet(0, 0, 21);
            Check.due("till there are seven", x.housesBy(0, 0, 0, 7), 7 - there);
            Check.due("seven", x.count(0), 7);
            Check.due("none", x.housesBy(0, 0, 0, 7), 0);
        }
    }

    /** "-12: what stood ahead came." */
    private static void housesByOutside() {
        for (int size = 0; size <= 21; size++) {
            for (int n = 1; n <= 7; n++) {
                UpperFloors x = new UpperFloors();
                x.sheet(0, 1, size);
                Check.due(n + " of a row of " + size, x.housesBy(0, 1, 0, n), 3 * n <= size ? n : -12);
                Check.due("what stood ahead", x.count(0), Math.min(n, size / 3));
            }
        }
        for (int at : new int[] {MIN, -3, -2, -1, 38, 39, 40, 41, MAX - 2, MAX}) {
            UpperFloors x = new UpperFloors();
            x.sheet(0, 0, 40);
            Check.due("from " + at, x.housesBy(0, 0, at, 2), -12);
            Check.due("nothing stood ahead", x.count(0), 0);
        }
        UpperFloors x = new UpperFloors();
        x.sheet(0, 0, 40);
        Check.due("the last three", x.housesBy(0, 0, 37, 1), 1);
        Check.due("the last three, and three more", x.housesBy(0, 0, 37, 2), -12);
        Check.due("they came", x.count(0), 2);
        Check.due("full, and outside", x.housesBy(0, 0, 36, 2) + x.housesBy(0, 0, 10, 7), -12 + 4);
        Check.due("full, and outside still", x.housesBy(0, 0, 36, 2), -12);
    }

    /** A byte's lowest 8 bits, a short's lowest 16 tell of houses, too. */
    private static void housesByCut() {
        for (int sort = 0; sort < 3; sort++) {
            int modulo = sort == 0 ? 256 : 65536;
            UpperFloors x = new UpperFloors();
            fill(x, 0, sort, 2 + modulo, 99 - modulo, 9 + 2 * modulo, 1, 100, 1, 1, 255, 1, 1, -1, 1);
            Check.due("of sort " + sort, x.housesBy(0, sort, 0, 4), sort == 2 ? 0 : 1);
            came("of sort " + sort, x, sort == 2 ? "" : "2/99/9 ");
        }
    }

    // ---- taken

    /** "0 .. 6 HOUSES, .. taken for 0 .. 5 a HOUSE of that KIND (also of one that is one): its number". */
    private static void takenHouses() {
        String[] is = {"0", "01", "02", "013", "024", "05"};
        for (int kind = 0; kind < 6; kind++) {
            UpperFloors x = new UpperFloors();
            for (int i = 0; i < 7; i++) {
                Check.due("nothing there", x.taken(i, kind), -11);
                x.house(kind, 0, 0);
                for (int as = 0; as < 6; as++) {
                    Check.due(kind + " taken for " + as, x.taken(i, as), is[kind].indexOf('0' + as) >= 0 ? i : -13);
                }
                Check.due("taken for people", x.taken(i, 6), -13);
                for (int bad : new int[] {-1, 7, MIN, MAX}) Check.due("no kind", x.taken(i, bad), -2);
            }
        }
        UpperFloors x = new UpperFloors();
        for (int place : new int[] {-1, 14, MIN, MAX}) {
            for (int kind = 0; kind <= 6; kind++) Check.due("no place", x.taken(place, kind), -12);
            for (int kind : new int[] {-1, 7}) Check.due("the kind ahead of the place", x.taken(place, kind), -2);
        }
    }

    /** "7 .. 13 PEOPLE of HOUSES 0 .. 6 that have any"; "6 PEOPLE: how many". */
    private static void takenPeople() {
        UpperFloors x = new UpperFloors();
        for (int h = 0; h < 7; h++) {
            for (int kind = 0; kind <= 6; kind++) Check.due("no house, no people", x.taken(7 + h, kind), -11);
            x.house(h % 6, 0, 0);
            for (int kind = 0; kind <= 6; kind++) Check.due("it has none", x.taken(7 + h, kind), -11);
            for (int people : new int[] {1, 20}) {
                x.set(h, 1, people);
                Check.due("how many", x.taken(7 + h, 6), people);
                for (int kind = 0; kind < 6; kind++) Check.due("taken for a house", x.taken(7 + h, kind), -13);
            }
            x.set(h, 1, 0);
            Check.due("they left", x.taken(7 + h, 6), -11);
            x.set(h, 1, 3);
        }
        for (int kind : new int[] {-1, 7}) Check.due("no kind", x.taken(13, kind), -2);
        Check.due("the last", x.taken(13, 6), 3);
    }
}
