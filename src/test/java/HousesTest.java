/** Promises 1, and 7 to 10. */
public final class HousesTest {
    public static void main(String[] args) {
        promise1();
        promise7();
        promise8();
        promise9();
        promise10();
        Check.end();
    }

    private static void promise1() {
        UpperFloors x = new UpperFloors();
        Check.due("no houses", x.count(0), 0);
        Check.due("no house 0", x.told(0, 3), -5);
        UpperFloors y = new UpperFloors();
        y.house(0, 1, 1);
        Check.text(y, "weighs 1;holds 1;hits 1;");
        y.image();
        UpperFloors z = new UpperFloors();
        Check.due("nothing of another object", z.count(0), 0);
        Check.due("nothing of another object", z.count(3), 1);
        Check.due("nothing of another object", z.back(), -3);
    }

    private static void promise7() {
        UpperFloors x = new UpperFloors();
        int[][] wrong = {{-1, 0, 0}, {6, 0, 0}, {0, -1, 0}, {0, 100, 0}, {0, 0, -1}, {0, 0, 10}};
        for (int[] w : wrong) Check.due("bad house", x.house(w[0], w[1], w[2]), -2);
        Check.due("none came", x.count(0), 0);
        int[][] right = {{0, 0, 0}, {5, 99, 9}, {1, 1, 2}, {2, 3, 4}, {3, 5, 6}, {4, 7, 8}, {0, 99, 0}};
        for (int h = 0; h < 7; h++) Check.due("house", x.house(right[h][0], right[h][1], right[h][2]), h);
        for (int h = 0; h < 7; h++) {
            Check.due("high", x.told(h, 0), 9);
            Check.due("people", x.told(h, 1), 0);
            Check.due("chain", x.told(h, 2), -1);
            for (int i = 0; i < 3; i++) Check.due("as told", x.told(h, 3 + i), right[h][i]);
        }
        Check.due("full", x.house(0, 0, 0), -4);
        for (int[] w : wrong) Check.due("bad ahead of full", x.house(w[0], w[1], w[2]), -2);
        Check.due("7", x.count(0), 7);
    }

    private static void promise8() {
        UpperFloors x = new UpperFloors();
        Check.due("no house", x.set(0, 0, 0), -5);
        x.house(0, 0, 0);
        x.house(0, 0, 0);
        Check.due("no house ahead of what", x.set(2, 9, 99), -5);
        Check.due("house -1", x.set(-1, 0, 0), -5);
        Check.due("high", x.set(1, 0, 0), 9);
        Check.due("high", x.set(1, 0, 9), 0);
        Check.due("high", x.set(1, 0, 4), 9);
        Check.due("people", x.set(1, 1, 20), 0);
        Check.due("people", x.set(1, 1, 7), 20);
        int[][] wrong = {{-1, 0}, {2, 0}, {0, -1}, {0, 10}, {1, -1}, {1, 21}};
        for (int[] w : wrong) Check.due("refused", x.set(1, w[0], w[1]), -7);
        Check.due("high stays", x.told(1, 0), 4);
        Check.due("people stay", x.told(1, 1), 7);
        Check.due("the other one", x.told(0, 0), 9);
        Check.due("the other one", x.told(0, 1), 0);
    }

    private static void partners(UpperFloors x, int... due) {
        for (int h = 0; h < due.length; h++) Check.due("chain of " + h, x.told(h, 2), due[h]);
    }

    private static void promise9() {
        UpperFloors x = new UpperFloors();
        Check.due("no houses", x.chain(0, 0), -5);
        for (int i = 0; i < 5; i++) x.house(0, 0, 0);
        Check.due("b is none", x.chain(0, 5), -5);
        Check.due("a is none", x.chain(5, 0), -5);
        Check.due("b below", x.chain(0, -1), -5);
        Check.due("a below", x.chain(-1, 0), -5);
        Check.due("on none", x.chain(3, 1), -1);
        partners(x, -1, 3, -1, 1, -1);
        Check.due("again", x.chain(3, 1), 1);
        Check.due("again", x.chain(1, 3), 3);
        partners(x, -1, 3, -1, 1, -1);
        Check.due("a second one", x.chain(0, 4), -1);
        Check.due("two chains are cut", x.chain(4, 3), 0);
        partners(x, -1, -1, -1, 4, 3);
        Check.due("one chain", x.count(1), 1);
        Check.due("b was, a wasn't", x.chain(2, 4), -1);
        partners(x, -1, -1, 4, -1, 2);
        Check.due("loosened by the greater", x.chain(4, 4), 2);
        partners(x, -1, -1, -1, -1, -1);
        Check.due("on none already", x.chain(4, 4), -1);
        Check.due("no chain", x.count(1), 0);
    }

    private static void promise10() {
        UpperFloors x = new UpperFloors();
        Check.due("no house", x.told(0, 0), -5);
        x.house(4, 56, 7);
        x.house(3, 0, 0);
        x.set(0, 0, 2);
        x.set(0, 1, 13);
        x.chain(0, 1);
        int[] due = {2, 13, 1, 4, 56, 7};
        for (int what = 0; what < 6; what++) Check.due("told", x.told(0, what), due[what]);
        Check.due("the other end", x.told(1, 2), 0);
        Check.due("what -1", x.told(0, -1), -7);
        Check.due("what 6", x.told(0, 6), -7);
        Check.due("house -1", x.told(-1, 6), -5);
        Check.due("house 2", x.told(2, 0), -5);
    }
}
