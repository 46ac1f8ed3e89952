/** Promises 21 to 27. */
public final class NightTest {
    public static void main(String[] args) {
        promise21();
        promise22();
        promise23();
        promise24();
        promise25();
        promise26();
        promise27();
        Check.end();
    }

    private static UpperFloors three() {
        UpperFloors x = new UpperFloors();
        x.house(0, 50, 0);
        x.house(0, 3, 0);
        x.house(0, 1, 0);
        x.set(0, 0, 2);
        x.set(1, 0, 5);
        return x;
    }

    private static void highs(UpperFloors x, int... due) {
        for (int h = 0; h < due.length; h++) Check.due("high " + h, x.told(h, 0), due[h]);
    }

    private static void promise21() {
        UpperFloors x = three();
        Check.due("n -1", x.night(-1), -2);
        Check.due("n 25", x.night(25), -2);
        Check.due("night(0)", x.night(0), 0);
        highs(x, 2, 5, 9);
        Check.due("night(3)", x.night(3), 1);
        highs(x, 0, 2, 9);
        Check.due("night(24)", x.night(24), 2);
        highs(x, 0, 0, 9);
        Check.due("no houses", new UpperFloors().night(24), 0);
    }

    private static void promise22() {
        UpperFloors x = three();
        Check.due("far -1", x.dawn(-1), -2);
        Check.due("far 10", x.dawn(10), -2);
        Check.due("dawn(0)", x.dawn(0), 0);
        highs(x, 2, 5, 9);
        Check.due("dawn(5)", x.dawn(5), 9);
        highs(x, 7, 9, 9);
        Check.due("dawn(9)", x.dawn(9), 2);
        highs(x, 9, 9, 9);
        Check.due("no houses", new UpperFloors().dawn(9), 0);
    }

    private static void promise23() {
        UpperFloors x = three();
        Check.due("sheet -1", x.judge(-1, 25), -2);
        Check.due("sheet 4", x.judge(4, 25), -2);
        Check.due("missing ahead of n", x.judge(0, 25), -11);
        x.sheet(0, 2, 2);
        Check.due("its size ahead of n", x.judge(0, 25), -2);
        x.sheet(0, 2, 4);
        Check.due("its size", x.judge(0, 0), -2);
        for (int sort = 0; sort <= 2; sort++) {
            Check.sheet(x, 3, sort, 1, 4, 9);
            Check.due("as told", x.judge(3, 1), -1);
            Check.due("house 0 is otherwise", x.judge(3, 0), 0);
            x.cell(3, 2, 8);
            Check.due("house 2 is otherwise", x.judge(3, 1), 2);
            x.cell(3, 1, 5);
            Check.due("house 1 is otherwise", x.judge(3, 1), 1);
        }
        Check.due("n -1", x.judge(3, -1), -7);
        Check.due("n 25", x.judge(3, 25), -7);
    }

    private static void promise24() {
        UpperFloors x = three();
        Check.due("sheet -1", x.times(-1), -2);
        Check.due("sheet 4", x.times(4), -2);
        Check.due("missing", x.times(1), -11);
        x.sheet(1, 0, 2);
        Check.due("its size", x.times(1), -2);
        Check.sheet(x, 1, 1, 2, 5, 9);
        Check.due("minute 0", x.times(1), 1);
        Check.sheet(x, 1, 1, 0, 2, 9);
        Check.due("minute 3", x.times(1), 8);
        Check.sheet(x, 1, 1, 0, 0, 9);
        Check.due("minutes 5 to 24", x.times(1), 0x1ffffe0);
        Check.sheet(x, 1, 1, 0, 0, 8);
        Check.due("never", x.times(1), 0);
    }

    private static void promise25() {
        UpperFloors x = three();
        Check.text(x, "weighs 0;holds 0;hits 0;");
        Check.text(x, "weighs 1;holds 0;hits 0;");
        Check.text(x, "weighs high=9;holds 0;hits 0;");
        Check.text(x, "weighs 9*(2<told);holds 0;hits 0;");
        Check.due("sheet -1", x.laws(-1, 0), -2);
        Check.due("sheet 4", x.laws(4, 0), -2);
        Check.due("missing ahead of n", x.laws(2, 25), -11);
        x.sheet(2, 0, 2);
        Check.due("its size ahead of n", x.laws(2, 25), -2);
        Check.sheet(x, 2, 0, 2, 5, 9);
        Check.due("n -1", x.laws(2, -1), -7);
        Check.due("n 25", x.laws(2, 25), -7);
        Check.due("all, at once", x.laws(2, 0), 31);
        Check.due("law 1", x.laws(2, 5), 2);
        Check.sheet(x, 2, 0, 1, 4, 9);
        Check.due("laws 0 and 4", x.laws(2, 1), 17);
        Check.sheet(x, 2, 0, 1, 4, 8);
        Check.due("law 2", x.laws(2, 1), 4);
        Check.sheet(x, 2, 0, 2, 5, 8);
        Check.due("law 3", x.laws(2, 24), 8);
        Check.due("none is in force by that", x.count(4), 0);
        x.force(2);
        Check.due("law 3, whichever is in force", x.laws(2, 24), 8);
    }

    private static void promise26() {
        UpperFloors x = three();
        Check.due("sheet -1", x.thief(-1, 0, 0), -2);
        Check.due("sheet 4", x.thief(4, 0, 0), -2);
        Check.due("missing ahead of the house", x.thief(0, 25, 9), -11);
        x.sheet(0, 0, 2);
        Check.due("its size ahead of the house", x.thief(0, 25, 9), -2);
        Check.sheet(x, 0, 0, 1, 4, 9);
        Check.due("house 3 ahead of n", x.thief(0, 25, 3), -5);
        Check.due("house -1", x.thief(0, 0, -1), -5);
        Check.due("n -1", x.thief(0, -1, 0), -7);
        Check.due("n 25", x.thief(0, 25, 0), -7);
        Check.due("nobody in house 2", x.thief(0, 1, 2), 1);
        Check.due("as many as may be in house 0", x.thief(0, 1, 0), 0x1fffff);
        Check.sheet(x, 0, 0, 1, 4, 8);
        Check.due("1 to 20 in house 2", x.thief(0, 1, 2), 0x1ffffe);
        Check.due("not by house 1", x.thief(0, 1, 1), 0);
        x.set(2, 1, 20);
        Check.due("21 to 40", x.thief(0, 1, 2), 0x1fffff);
        Check.due("no one truly came", x.count(2), 20);
    }

    private static void promise27() {
        UpperFloors x = three();
        Check.due("sheet -1", x.film(-1, 25), -2);
        Check.due("sheet 4", x.film(4, 0), -2);
        Check.due("n -1", x.film(0, -1), -7);
        Check.due("n 25", x.film(0, 25), -7);
        Check.due("it is missing still", x.cell(0, 0, 0), -11);
        Check.due("3 houses", x.film(0, 3), 3);
        Check.due("behind 3", x.times(0), 8);
        Check.due("house 1 is otherwise behind 2", x.judge(0, 2), 1);
        Check.due("3 of them", x.cell(0, 3, 0), -12);
        x.sheet(1, 2, 3);
        Check.due("ints", x.copy(0, 0, 1, 0, 3), 3);
        Check.due("the same", x.judge(1, 3), -1);
        Check.due("house 0 ahead of house 1", x.cell(1, 0, 1), 1);
        Check.due("otherwise", x.judge(1, 3), 0);
        Check.sheet(x, 2, 0, 7, 7, 7, 7, 7, 7);
        Check.due("over another row", x.film(2, 0), 3);
        Check.due("behind 0", x.judge(2, 0), -1);
        Check.due("nothing truly moved", x.told(0, 0), 2);
        UpperFloors y = new UpperFloors();
        Check.due("no houses", y.film(3, 24), 0);
        Check.due("an empty row", y.cell(3, 0, 0), -12);
    }
}
