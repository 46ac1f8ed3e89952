/** Promises 11 to 14, the kinds of section 1, and section 2's dusk. */
public final class DuskTest {
    public static void main(String[] args) {
        kinds();
        chains();
        hits();
        promise11();
        promise12();
        promise13();
        promise14();
        Check.end();
    }

    /** How high one house's floor is behind n minutes. */
    private static int behind(int n, int kind, int told, int more, int high) {
        UpperFloors x = new UpperFloors();
        x.house(kind, told, more);
        x.set(0, 0, high);
        return x.of(n, 0, 0);
    }

    private static void kinds() {
        Check.due("a house of 3", behind(24, 0, 3, 9, 9), 0);
        Check.due("a house of 2 is held", behind(24, 0, 2, 9, 9), 9);
        Check.due("a heavy one", behind(24, 1, 0, 1, 9), 0);
        Check.due("a heavy one of no more", behind(24, 1, 2, 0, 9), 9);
        Check.due("a braked one", behind(24, 2, 5, 3, 9), 9);
        Check.due("a braked one", behind(24, 2, 6, 3, 9), 0);
        Check.due("an aunt at 5", behind(24, 3, 2, 0, 5), 5);
        Check.due("an aunt at 4", behind(24, 3, 2, 0, 4), 0);
        Check.due("an aunt of 1", behind(24, 3, 1, 0, 4), 4);
        Check.due("an aunt is heavy, too", behind(24, 3, 0, 1, 9), 0);
        Check.due("a stuck one", behind(24, 4, 50, 4, 9), 4);
        Check.due("stuck at once", behind(24, 4, 50, 9, 9), 9);
        Check.due("below where it sticks", behind(24, 4, 50, 6, 5), 0);
        Check.due("a stuck one is braked", behind(24, 4, 10, 8, 9), 9);
        Check.due("a stuck one is braked", behind(24, 4, 11, 8, 9), 8);
        Check.due("late", behind(6, 5, 0, 6, 9), 9);
        Check.due("late, from its minute on", behind(7, 5, 0, 6, 9), 8);
        Check.due("late, held when low", behind(24, 5, 0, 6, 9), 2);
        Check.due("late, not held", behind(24, 5, 2, 6, 9), 0);
        weights();
    }

    private static void weights() {
        int[][] due = {{0, 10, 10}, {1, 22, 22}, {2, 10, 10}, {3, 22, 44}, {4, 10, 10}, {5, 19, 11}};
        for (int[] d : due) {
            UpperFloors x = new UpperFloors();
            x.house(d[0], 10, 4);
            Check.due("weighs, kind " + d[0], x.of(0, 0, 4), d[1]);
            x.set(0, 0, 5);
            Check.due("weighs at 5, kind " + d[0], x.of(0, 0, 4), d[0] == 5 ? 15 : d[1]);
            x.set(0, 0, 4);
            Check.due("weighs at 4, kind " + d[0], x.of(0, 0, 4), d[0] == 5 ? 14 : d[2]);
            x.set(0, 0, 1);
            Check.due("weighs at 1, kind " + d[0], x.of(0, 0, 4), d[2]);
        }
        UpperFloors y = Check.under("weighs 9999;holds 99;hits 0;");
        y.house(3, 0, 9);
        y.set(0, 0, 0);
        Check.due("the bound is the text's", y.of(0, 0, 4), 2 * (999 + 27));
    }

    private static UpperFloors pair(int toldA, int highA, int toldB, int highB) {
        UpperFloors x = new UpperFloors();
        x.house(0, toldA, 0);
        x.house(0, toldB, 0);
        x.set(0, 0, highA);
        x.set(1, 0, highB);
        x.chain(1, 0);
        return x;
    }

    private static void highs(String what, UpperFloors x, int n, int a, int b) {
        Check.due(what + ", 0", x.of(n, 0, 0), a);
        Check.due(what + ", 1", x.of(n, 1, 0), b);
    }

    private static void chains() {
        highs("the lesser goes", pair(20, 9, 10, 0), 5, 4, 5);
        highs("the greater goes", pair(10, 0, 20, 9), 5, 5, 4);
        highs("to the end", pair(20, 9, 10, 0), 24, 0, 9);
        highs("the other is at the top", pair(20, 9, 10, 9), 24, 9, 9);
        highs("the other reaches it", pair(20, 9, 10, 6), 24, 6, 9);
        highs("it is at the ground", pair(20, 0, 10, 3), 24, 0, 3);
        highs("unlike by 4", pair(20, 9, 16, 0), 24, 9, 0);
        highs("unlike by 5", pair(20, 9, 15, 0), 24, 0, 9);
        highs("of like ones", pair(20, 5, 20, 5), 24, 5, 5);
        UpperFloors x = pair(20, 9, 10, 0);
        x.chain(0, 0);
        highs("loosened", x, 1, 8, 0);
        freeOnes();
        order();
    }

    private static void freeOnes() {
        UpperFloors x = new UpperFloors();
        x.house(0, 30, 0);
        x.house(4, 0, 3);
        x.set(1, 0, 0);
        x.chain(0, 1);
        highs("the other sticks", x, 24, 6, 3);
        UpperFloors y = new UpperFloors();
        y.house(5, 0, 4);
        y.house(0, 30, 0);
        y.set(0, 0, 0);
        y.chain(0, 1);
        highs("the other is late", y, 4, 0, 9);
        highs("the other is free", y, 6, 2, 7);
        UpperFloors z = new UpperFloors();
        z.house(2, 20, 3);
        z.house(4, 10, 2);
        z.set(1, 0, 5);
        z.chain(0, 1);
        highs("held by 2, 3, 2 and 2", z, 1, 8, 6);
        z.set(1, 0, 1);
        Check.due("on", z.of(24, 1, 0), 2);
        UpperFloors w = new UpperFloors();
        w.house(2, 20, 3);
        w.house(4, 10, 3);
        w.set(1, 0, 5);
        w.chain(0, 1);
        highs("held by 2, 3, 2 and 3", w, 24, 9, 5);
    }

    /** Within a minute the houses come one behind the other: a chain moves both at its lesser house. */
    private static void order() {
        UpperFloors x = Check.under("weighs told;holds 0;hits minute + 1;");
        x.house(0, 0, 0);
        x.house(0, 9, 0);
        x.set(0, 0, 8);
        x.set(1, 0, 1);
        x.chain(0, 1);
        Check.due("down in minute 0", x.of(1, 1, 2), 0);
        Check.due("one move a minute", x.of(1, 0, 1), 1);
        Check.due("one move a minute", x.of(1, 1, 1), 1);
    }

    private static void hits() {
        UpperFloors x = new UpperFloors();
        x.house(0, 20, 0);
        x.set(0, 0, 3);
        x.set(0, 1, 2);
        Check.due("no hit yet", x.of(2, 0, 2), -1);
        Check.due("no hit yet", x.of(2, 0, 3), 0);
        Check.due("hit in minute 2", x.of(3, 0, 2), 2);
        Check.due("speed 3, people 2", x.of(3, 0, 3), 6);
        Check.due("only once", x.of(24, 0, 3), 6);
        UpperFloors y = Check.under("weighs 10*(not minute=2);holds 5;hits speed*10+high;");
        y.house(0, 0, 0);
        y.set(0, 0, 4);
        Check.due("the run broke", y.of(24, 0, 3), 20);
        Check.due("in minute 4", y.of(24, 0, 2), 4);
        UpperFloors z = Check.under("weighs 5;holds 0;hits speed;");
        z.house(0, 0, 0);
        z.set(0, 0, 3);
        z.of(2, 0, 0);
        Check.due("no run comes from another dusk", z.of(3, 0, 3), 3);
        Check.due("speed is 0 but of hits", speedless("speed*9", "0"), 9);
        Check.due("speed is 0 but of hits", speedless("5", "speed*9"), 0);
        for (int one = 0; one < 2; one++) {
            turning(one, 1 - one);
            Check.due("a still minute ends a chain's run", broken("told*(not minute=1)", one), 20);
            Check.due("a minute upwards ends it", broken("told*(not minute=1)+(10-told)*(minute=1)", one), 30);
            Check.due("unlike by 1, held by 0", broken("told=9", one), 30);
        }
    }

    private static int speedless(String weighs, String holds) {
        UpperFloors x = Check.under("weighs " + weighs + ";holds " + holds + ";hits 1;");
        x.house(0, 0, 0);
        return x.of(24, 0, 0);
    }

    /** Ten times the speed of a floor's hit, of 3 high, in a chain with one of 3. */
    private static int broken(String weighs, int one) {
        UpperFloors x = Check.under("weighs " + weighs + ";holds 0;hits speed*10;");
        x.house(0, one == 0 ? 9 : 1, 0);
        x.house(0, one == 0 ? 1 : 9, 0);
        x.set(0, 0, 3);
        x.set(1, 0, 3);
        x.chain(0, 1);
        return x.of(24, one, 3);
    }

    /** The one weighs 9 till minute 2, the other one from minute 3 on: both come down once. */
    private static void turning(int one, int other) {
        UpperFloors x = Check.under("weighs told*(minute<3)+(10-told)*(2<minute);holds 0;hits speed*10+high+people;");
        x.house(0, one == 0 ? 9 : 1, 0);
        x.house(0, one == 0 ? 1 : 9, 0);
        x.set(one, 0, 3);
        x.set(other, 0, 0);
        x.set(one, 1, 4);
        x.set(other, 1, 7);
        x.chain(0, 1);
        Check.due("one is down", x.of(3, one, 0), 0);
        Check.due("its hit", x.of(3, one, 2), 2);
        Check.due("speed 3", x.of(3, one, 3), 34);
        Check.due("the other is up", x.of(3, other, 0), 3);
        Check.due("no hit", x.of(3, other, 2), -1);
        Check.due("the other is down", x.of(24, other, 0), 0);
        Check.due("its hit", x.of(24, other, 2), 5);
        Check.due("going up is no run", x.of(24, other, 3), 37);
        Check.due("moves", x.of(24, one, 1), 6);
        Check.due("moves", x.of(24, other, 1), 6);
        Check.due("hits of both", x.all(24, 1), 71);
        UpperFloors y = Check.under("weighs told*(minute<3 or 5<minute)+(10-told)*(2<minute and minute<6);holds 0;hits speed;");
        y.house(0, one == 0 ? 9 : 1, 0);
        y.house(0, one == 0 ? 1 : 9, 0);
        y.set(one, 0, 2);
        y.set(other, 0, 1);
        y.chain(0, 1);
        Check.due("hits together", y.of(24, one, 3), 2 + 3);
        Check.due("the last hit", y.of(24, one, 2), 8);
        Check.due("the hit ahead", y.of(8, one, 2), 1);
    }

    private static void promise11() {
        UpperFloors x = Check.under("weighs minute*10+high;holds 4;hits 3;");
        Check.due("no house", x.of(0, 0, 0), -5);
        x.house(0, 1, 1);
        x.set(0, 0, 2);
        // Minute 0: 2 is held by 4; minute 1: 12; minute 2: 21; then it is down.
        int[][] due = {{2, 0, -1, 0, 2}, {2, 0, -1, 0, 12}, {1, 1, -1, 0, 21}, {0, 2, 2, 3, 30}, {0, 2, 2, 3, 40}};
        for (int n = 0; n < 5; n++) {
            for (int what = 0; what < 5; what++) Check.due("of(" + n + ", 0, " + what + ")", x.of(n, 0, what), due[n][what]);
        }
        Check.due("n 24", x.of(24, 0, 4), 240);
        Check.due("n -1", x.of(-1, 0, 0), -5);
        Check.due("n 25", x.of(25, 0, 9), -5);
        Check.due("house 1", x.of(0, 1, 9), -5);
        Check.due("house -1", x.of(0, -1, 0), -5);
        Check.due("what -1", x.of(0, 0, -1), -7);
        Check.due("what 5", x.of(0, 0, 5), -7);
        Check.due("nothing truly moved", x.told(0, 0), 2);
    }

    private static void promise12() {
        UpperFloors x = new UpperFloors();
        for (int what = 0; what < 4; what++) Check.due("no houses", x.all(24, what), 0);
        x.house(0, 3, 0);
        x.house(0, 2, 0);
        x.house(0, 50, 0);
        x.house(0, 1, 0);
        x.set(1, 0, 0);
        x.set(2, 0, 2);
        x.set(2, 1, 3);
        x.set(0, 1, 1);
        int[][] n0 = {{0, 2}, {1, 0}, {2, 20}, {3, 15}};
        for (int[] d : n0) Check.due("all(0, " + d[0] + ")", x.all(0, d[0]), d[1]);
        int[][] n2 = {{0, 6}, {1, 6}, {2, 16}, {3, 10}};
        for (int[] d : n2) Check.due("all(2, " + d[0] + ")", x.all(2, d[0]), d[1]);
        int[][] n9 = {{0, 7}, {1, 15}, {2, 9}, {3, 10}};
        for (int[] d : n9) Check.due("all(9, " + d[0] + ")", x.all(9, d[0]), d[1]);
        Check.due("n -1", x.all(-1, 9), -5);
        Check.due("n 25", x.all(25, 0), -5);
        Check.due("what -1", x.all(0, -1), -7);
        Check.due("what 4", x.all(0, 4), -7);
    }

    private static void promise13() {
        UpperFloors x = new UpperFloors();
        Check.due("no house", x.when(0), -5);
        x.house(0, 3, 0);
        x.house(0, 2, 0);
        x.house(5, 9, 9);
        Check.due("9 minutes", x.when(0), 9);
        Check.due("never", x.when(1), -1);
        Check.due("late", x.when(2), 18);
        x.set(1, 0, 0);
        Check.due("now", x.when(1), 0);
        Check.due("house 3", x.when(3), -5);
        Check.due("house -1", x.when(-1), -5);
        UpperFloors y = pair(20, 0, 10, 3);
        Check.due("now", y.when(0), 0);
        UpperFloors z = pair(10, 0, 20, 3);
        Check.due("now, though it goes up", z.when(0), 0);
        Check.due("the last minute", last(15), 24);
        Check.due("too late", last(16), -1);
    }

    private static int last(int from) {
        UpperFloors x = Check.under("weighs not minute<" + from + ";holds 0;hits 0;");
        x.house(0, 0, 0);
        return x.when(0);
    }

    private static void promise14() {
        UpperFloors x = new UpperFloors();
        Check.due("no houses", x.first(0), -1);
        Check.due("no houses", x.first(1), -1);
        Check.due("what -1", x.first(-1), -2);
        Check.due("what 2", x.first(2), -2);
        x.house(0, 0, 0);
        Check.due("none", x.first(0), -1);
        Check.due("none", x.first(1), -1);
        int[] high = {6, 4, 6, 4, 5};
        for (int i = 0; i < 5; i++) {
            x.house(0, 9, 0);
            x.set(i + 1, 0, high[i]);
        }
        Check.due("the least", x.first(0), 2);
        Check.due("the greatest", x.first(1), 1);
        x.set(5, 0, 0);
        Check.due("now", x.first(0), 5);
        x.set(5, 0, 9);
        Check.due("the greatest", x.first(1), 5);
    }
}
