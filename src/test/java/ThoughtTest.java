/** Promises 15 to 20. */
public final class ThoughtTest {
    public static void main(String[] args) {
        promise15();
        promise16();
        promise17();
        promise18();
        promise19();
        promise20();
        Check.end();
    }

    private static void promise15() {
        UpperFloors x = new UpperFloors();
        Check.due("no house", x.bring(0, 0), -5);
        x.house(0, 0, 0);
        Check.due("one more", x.bring(0, 9), 1);
        Check.due("too soon", x.bring(0, 8), -1);
        x.set(0, 1, 1);
        Check.due("none more", x.bring(0, 9), 0);
        Check.due("house 1 ahead of n", x.bring(1, 25), -5);
        Check.due("house -1", x.bring(-1, 0), -5);
        Check.due("n -1", x.bring(0, -1), -7);
        Check.due("n 25", x.bring(0, 25), -7);
        x.set(0, 0, 0);
        Check.due("down now", x.bring(0, 0), 0);
        UpperFloors y = Check.under("weighs people;holds 39;hits 0;");
        y.house(0, 0, 0);
        Check.due("not even 20", y.bring(0, 24), -1);
        y.set(0, 1, 20);
        Check.due("20 more make 40", y.bring(0, 24), 20);
        y.set(0, 1, 19);
        Check.due("20 more make 39", y.bring(0, 24), -1);
        Check.due("no one truly came", y.told(0, 1), 19);
        UpperFloors z = Check.under("weighs (people=6)*5+(people=9)*5;holds 1;hits 0;");
        z.house(0, 0, 0);
        Check.due("the fewest", z.bring(0, 24), 6);
        z.set(0, 1, 7);
        Check.due("the fewest", z.bring(0, 24), 2);
    }

    private static void promise16() {
        UpperFloors x = new UpperFloors();
        Check.due("no houses", x.weight(0, 0, 0), -1);
        Check.due("no houses", x.weight(0, 0, 1), -1);
        int[][] wrong = {{-1, 0, 0}, {21, 0, 0}, {0, -1, 0}, {0, 25, 0}, {0, 0, -1}, {0, 0, 2}};
        for (int[] w : wrong) Check.due("bad", x.weight(w[0], w[1], w[2]), -2);
        x.house(0, 50, 0);
        x.house(2, 0, 9);
        x.house(0, 0, 0);
        x.house(0, 0, 0);
        for (int[] w : wrong) Check.due("bad", x.weight(w[0], w[1], w[2]), -2);
        Check.due("house 2 by 1", x.weight(1, 9, 0), 2);
        Check.due("2 are down", x.weight(1, 9, 1), 2);
        Check.due("house 1 by 3", x.weight(3, 9, 0), 1);
        Check.due("2 are down", x.weight(3, 9, 1), 2);
        Check.due("nobody", x.weight(0, 9, 0), 0);
        Check.due("1 is down", x.weight(0, 9, 1), 1);
        Check.due("too soon", x.weight(20, 8, 0), 0);
        Check.due("none are down", x.weight(20, 8, 1), 0);
        Check.due("no one truly came", x.count(2), 0);
    }

    private static void promise17() {
        UpperFloors x = new UpperFloors();
        Check.due("no houses", x.over(0, 0), -1);
        Check.due("no houses", x.over(0, 1), 0);
        int[][] wrong = {{-1, 0}, {25, 0}, {0, -1}, {0, 2}};
        for (int[] w : wrong) Check.due("bad", x.over(w[0], w[1]), -2);
        for (int i = 0; i < 4; i++) x.house(0, 0, 0);
        Check.due("nobody to go", x.over(24, 0), -1);
        Check.due("as now", x.over(24, 1), 0);
        x.set(2, 1, 2);
        Check.due("from 2 to 0", x.over(9, 0), 20);
        Check.due("2 are down", x.over(9, 1), 2);
        Check.due("too soon", x.over(8, 0), -1);
        Check.due("as now", x.over(8, 1), 0);
        x.set(2, 1, 1);
        Check.due("one goes and leaves none", x.over(9, 0), -1);
        Check.due("as now", x.over(9, 1), 1);
        x.set(0, 1, 2);
        Check.due("from 0 to 1", x.over(9, 0), 1);
        Check.due("3 are down", x.over(9, 1), 3);
        Check.due("no one truly went", x.told(0, 1), 2);
        UpperFloors y = Check.under("weighs people;holds told;hits 0;");
        y.house(0, 20, 0);
        y.house(0, 0, 0);
        y.set(0, 1, 20);
        y.set(1, 1, 3);
        Check.due("a 21st in thought", y.over(9, 0), 10);
        Check.due("both are down", y.over(9, 1), 2);
        mostOfAll();
    }

    private static void mostOfAll() {
        UpperFloors x = Check.under("weighs (people=told)*9;holds 1;hits 0;");
        int[][] toldPeople = {{1, 2}, {3, 0}, {5, 4}, {9, 0}};
        for (int h = 0; h < 4; h++) {
            x.house(0, toldPeople[h][0], 0);
            x.set(h, 1, toldPeople[h][1]);
        }
        Check.due("0 to 2 brings both down", x.over(9, 0), 2);
        Check.due("2", x.over(9, 1), 2);
    }

    private static void promise18() {
        UpperFloors x = new UpperFloors();
        Check.due("no houses", x.link(0, 0), -1);
        Check.due("no houses", x.link(0, 1), 0);
        int[][] wrong = {{-1, 0}, {25, 0}, {0, -1}, {0, 2}};
        for (int[] w : wrong) Check.due("bad", x.link(w[0], w[1]), -2);
        int[] told = {0, 10, 10, 0};
        int[] high = {9, 1, 1, 0};
        for (int h = 0; h < 4; h++) {
            x.house(0, told[h], 0);
            x.set(h, 0, high[h]);
        }
        Check.due("all go without", x.link(1, 0), -1);
        Check.due("3 are down", x.link(1, 1), 3);
        x.chain(1, 2);
        // 1 and 2 hold one another; each is freed by a chain of the other to a third house.
        Check.due("the first that frees", x.link(1, 0), 1);
        Check.due("2 are down", x.link(1, 1), 2);
        x.set(0, 0, 8);
        Check.due("now both go", x.link(1, 0), 1);
        Check.due("3 are down", x.link(1, 1), 3);
        Check.due("too soon", x.link(0, 0), -1);
        Check.due("as now", x.link(0, 1), 1);
        Check.due("no chain was truly laid", x.told(1, 2), 2);
        Check.due("no chain was truly laid", x.count(1), 1);
    }

    private static void promise19() {
        UpperFloors x = new UpperFloors();
        Check.due("no house", x.frees(0, 0, 0), -5);
        for (int i = 0; i < 5; i++) x.house(0, 10, 0);
        x.chain(4, 1);
        x.chain(0, 3);
        Check.due("without 1-4", x.frees(1, 9, 0), 14);
        Check.due("one", x.frees(1, 9, 1), 1);
        Check.due("without 1-4", x.frees(4, 9, 0), 14);
        Check.due("without 0-3", x.frees(3, 9, 0), 3);
        Check.due("too soon", x.frees(3, 8, 0), -1);
        Check.due("too soon", x.frees(3, 8, 1), 0);
        Check.due("down with all", x.frees(2, 9, 0), -1);
        Check.due("down with all", x.frees(2, 9, 1), 0);
        Check.due("house 5 ahead of n", x.frees(5, 25, 9), -5);
        Check.due("house -1", x.frees(-1, 0, 0), -5);
        Check.due("n -1", x.frees(0, -1, 0), -7);
        Check.due("n 25", x.frees(0, 25, 0), -7);
        Check.due("what -1", x.frees(0, 0, -1), -7);
        Check.due("what 2", x.frees(0, 0, 2), -7);
        Check.due("no chain was truly loosened", x.count(1), 2);
        UpperFloors y = new UpperFloors();
        y.house(0, 0, 0);
        y.house(0, 20, 0);
        y.set(0, 0, 0);
        y.chain(0, 1);
        Check.due("it would stay down", y.frees(0, 3, 0), 1);
        Check.due("it is down now", y.frees(0, 0, 0), -1);
    }

    private static void promise20() {
        UpperFloors x = new UpperFloors();
        Check.due("no houses", x.hang(0, 0, 0), -5);
        x.house(0, 20, 0);
        x.house(0, 0, 0);
        x.house(0, 0, 0);
        x.chain(0, 1);
        x.set(0, 0, 4);
        Check.due("0 itself down", x.hang(0, 0, 0), 0);
        Check.due("0 itself down", x.hang(0, 0, 1), 0);
        Check.due("1 not above 5", x.hang(0, 1, 0), 5);
        Check.due("4 minutes", x.hang(0, 1, 1), 4);
        Check.due("of no matter", x.hang(0, 2, 0), -1);
        Check.due("of no matter", x.hang(0, 2, 1), -1);
        x.set(1, 0, 0);
        Check.due("of no matter, the highest", x.hang(0, 2, 0), 9);
        Check.due("of no matter", x.hang(0, 2, 1), 4);
        Check.due("h 3", x.hang(3, 0, 9), -5);
        Check.due("h -1", x.hang(-1, 0, 0), -5);
        Check.due("which 3", x.hang(0, 3, 9), -5);
        Check.due("which -1", x.hang(0, -1, 0), -5);
        Check.due("what -1", x.hang(0, 0, -1), -7);
        Check.due("what 2", x.hang(0, 0, 2), -7);
        Check.due("none was truly hung", x.told(0, 0), 4);
        Check.due("none was truly hung", x.told(1, 0), 0);
    }
}
