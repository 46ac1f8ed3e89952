/** Promises 15 to 17 and 23 to 27 where a CHAIN hangs: what one floor's PEOPLE, and THE LAW, do to the other one. */
public final class ChainThoughtTest {
    public static void main(String[] args) {
        bring();
        weight();
        over();
        judge();
        times();
        laws();
        thief();
        film();
        Check.end();
    }

    /** Two HOUSES on one CHAIN under the first law, which holds both together by 4. */
    private static UpperFloors two(int toldA, int highA, int toldB, int highB) {
        UpperFloors x = new UpperFloors();
        x.house(0, toldA, 0);
        x.house(0, toldB, 0);
        x.set(0, 0, highA);
        x.set(1, 0, highB);
        x.chain(0, 1);
        return x;
    }

    /** The lighter one wants 3 more, as 15 are more than 10 and 4; be it the lesser HOUSE or the greater one. */
    private static void bring() {
        for (int light = 0; light < 2; light++) {
            UpperFloors x = light == 0 ? two(10, 9, 20, 0) : two(20, 0, 10, 9);
            Check.due("three more", x.bring(light, 9), 3);
            Check.due("too soon", x.bring(light, 8), -1);
            Check.due("the other one is down now", x.bring(1 - light, 0), 0);
            Check.due("and stays", x.bring(1 - light, 24), 0);
            x.set(1 - light, 0, 1);
            Check.due("from 9 the other one can go up 8 alone", x.bring(light, 24), -1);
            x.set(light, 0, 8);
            Check.due("from 8 it can go down", x.bring(light, 8), 3);
            Check.due("the other one goes down without more, behind 1", x.bring(1 - light, 1), 0);
        }
    }

    /** "MOST ARE DOWN": PEOPLE in the one floor lift the other one. */
    private static void weight() {
        UpperFloors x = two(10, 9, 20, 0);
        Check.due("0 comes down as 1 goes up: as many as if 1 stays", x.weight(3, 9, 0), 0);
        Check.due("one", x.weight(3, 9, 1), 1);
        Check.due("behind 5 neither is down by 0", x.weight(3, 5, 0), 1);
        Check.due("one", x.weight(3, 5, 1), 1);
        Check.due("two more are too few to lift 1", x.weight(2, 5, 0), 0);
        Check.due("one", x.weight(2, 5, 1), 1);
    }

    /** "One of PEOPLE who goes from a HOUSE to another one" changes both floors of a CHAIN at once. */
    private static void over() {
        UpperFloors x = two(0, 6, 0, 3);
        x.set(0, 1, 1);
        x.set(1, 1, 1);
        Check.due("to 1, which comes down from 3", x.over(3, 0), 1);
        Check.due("one is down", x.over(3, 1), 1);
        Check.due("too soon", x.over(2, 0), -1);
        Check.due("as now", x.over(2, 1), 0);
        Check.due("either way: the first", x.over(6, 0), 1);
        x.set(0, 0, 3);
        x.set(1, 0, 6);
        Check.due("to 0, which comes down from 3", x.over(3, 0), 10);
        Check.due("each is where it was", x.told(0, 1) * 10 + x.told(1, 1), 11);
    }

    /** The first HOUSE whose height is otherwise, of one that goes down and one that goes up. */
    private static void judge() {
        UpperFloors x = two(20, 9, 10, 0);
        for (int n = 0; n <= 9; n++) {
            Check.sheet(x, 0, 0, 9 - n, n);
            Check.due("as high behind " + n, x.judge(0, n), -1);
            x.cell(0, 1, n + 1);
            Check.due("the other one is otherwise", x.judge(0, n), 1);
            x.cell(0, 0, 8 - n);
            Check.due("the one is otherwise", x.judge(0, n), 0);
        }
    }

    /** "n (bits 0 .. 24)": more than one n, between which floors are otherwise. */
    private static void times() {
        UpperFloors x = Check.under("weighs told*(minute<3)+(9-told)*(2<minute);holds 0;hits 0;");
        x.house(0, 9, 0);
        x.house(0, 0, 0);
        x.set(0, 0, 5);
        x.set(1, 0, 2);
        x.chain(0, 1);
        int[][] highs = {{5, 2}, {4, 3}, {3, 4}, {2, 5}, {6, 1}, {7, 0}, {1, 6}, {5, 3}};
        int[] due = {1 | 1 << 6, 1 << 1 | 1 << 5, 1 << 2 | 1 << 4, 1 << 3, 1 << 7, (1 << 25) - (1 << 8), 0, 0};
        for (int i = 0; i < due.length; i++) {
            Check.sheet(x, 0, 0, highs[i]);
            Check.due("so high as " + highs[i][0] + ", " + highs[i][1], x.times(0), due[i]);
        }
    }

    /** "TEXTS (bits), were they THE LAW": which of both goes down is told by the text. */
    private static void laws() {
        UpperFloors x = two(20, 5, 10, 5);
        Check.text(x, "weighs 99-told;holds 2;hits 0;");
        Check.text(x, "weighs told;holds 5;hits 0;");
        Check.text(x, "weighs told;holds 4;hits 0;");
        int[][] highs = {{4, 6}, {6, 4}, {5, 5}, {4, 5}};
        int[] due = {1 | 1 << 3, 1 << 1, 1 << 2, 0};
        for (int force = 0; force < 4; force++) {
            x.force(force);
            for (int i = 0; i < due.length; i++) {
                Check.sheet(x, 1, 1, highs[i]);
                Check.due("by law " + force + ", " + highs[i][0] + ", " + highs[i][1], x.laws(1, 1), due[i]);
            }
        }
    }

    /** "How many PEOPLE more (bits 0 .. 20)": none to 2 move nothing, 3 and more lift the other floor. */
    private static void thief() {
        UpperFloors x = two(10, 9, 20, 0);
        Check.sheet(x, 0, 2, 9, 0);
        Check.due("none to two", x.thief(0, 1, 0), 7);
        Check.due("as many as may be in the heavy one", x.thief(0, 1, 1), (1 << 21) - 1);
        Check.sheet(x, 0, 2, 8, 1);
        Check.due("three and more", x.thief(0, 1, 0), (1 << 21) - 1 - 7);
        Check.due("none in the heavy one", x.thief(0, 1, 1), 0);
        UpperFloors y = two(20, 5, 20, 5);
        Check.sheet(y, 0, 2, 5, 5);
        Check.due("like ones", y.thief(0, 24, 1), 1);
        Check.sheet(y, 0, 2, 9, 1);
        Check.due("one more is enough", y.thief(0, 24, 1), (1 << 21) - 2);
        Check.due("in 4 minutes", y.thief(0, 4, 1), (1 << 21) - 2);
        Check.due("too soon", y.thief(0, 3, 1), 0);
        Check.due("none in the other one", y.thief(0, 4, 0), 0);
    }

    /** A film of a CHAIN's floors fits just the n at which it was made. */
    private static void film() {
        UpperFloors x = two(20, 9, 10, 0);
        for (int n = 0; n <= 24; n++) {
            Check.due("two", x.film(3, n), 2);
            Check.due("n " + n, x.times(3), n < 9 ? 1 << n : (1 << 25) - (1 << 9));
        }
    }
}
