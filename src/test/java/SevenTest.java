/** Seven houses: each question that goes over houses, chains or pairs comes to the last one and no farther. */
public final class SevenTest {
    public static void main(String[] args) {
        alone();
        chained();
        Check.end();
    }

    /** Houses 0 to 6, so high as their number and 2 more; the last one alone is held. */
    private static UpperFloors seven() {
        UpperFloors x = new UpperFloors();
        for (int h = 0; h < 7; h++) {
            x.house(0, h == 6 ? 0 : 9, 0);
            x.set(h, 0, h + 2);
            x.set(h, 1, 0);
        }
        return x;
    }

    private static void alone() {
        UpperFloors x = seven();
        Check.due("people", x.count(2), 0);
        Check.due("chains", x.count(1), 0);
        Check.due("down", x.all(24, 0), 63);
        Check.due("high", x.all(0, 2), 35);
        Check.due("hits", x.all(24, 1), 0);
        Check.due("never moved", x.all(24, 3), 64);
        Check.due("first", x.first(0), 0);
        Check.due("last", x.first(1), 5);
        Check.due("bring", x.bring(6, 8), 1);
        Check.due("weight", x.weight(1, 8, 0), 6);
        Check.due("weight", x.weight(1, 8, 1), 7);
        x.set(5, 1, 1);
        Check.due("over", x.over(8, 0), 56);
        Check.due("over", x.over(8, 1), 7);
        Check.due("link", x.link(8, 0), -1);
        Check.due("link", x.link(8, 1), 6);
        Check.due("frees", x.frees(6, 8, 1), 0);
        Check.due("hang", x.hang(6, 6, 0), 0);
        Check.due("hang", x.hang(5, 6, 0), 9);
        Check.due("film", x.film(0, 3), 7);
        Check.due("judge", x.judge(0, 3), -1);
        Check.due("times", x.times(0), 8);
        Check.due("laws", x.laws(0, 3), 1);
        Check.due("thief", x.thief(0, 3, 6), 1);
        x.cell(0, 6, 7);
        Check.due("judge", x.judge(0, 3), 6);
        Check.due("drawn", x.drawn(1, 8, 50), 6);
        Check.due("odds", x.odds(1, 8, 50, 0), 0);
        Check.due("image", x.image(), 7);
        Check.due("night", x.night(24), 6);
        Check.due("dawn", x.dawn(9), 55);
        Check.due("back", x.back(), 7);
        Check.due("high", x.told(6, 0), 8);
        Check.due("people leave", x.set(5, 1, 0), 1);
        Check.due("nobody", x.told(5, 1), 0);
        lastOfAll();
    }

    private static void lastOfAll() {
        UpperFloors x = new UpperFloors();
        for (int h = 0; h < 7; h++) x.house(0, 0, 0);
        x.set(6, 1, 7);
        x.set(6, 0, 1);
        Check.due("people", x.count(2), 7);
        Check.due("hits", x.all(1, 1), 7);
        Check.due("down", x.all(1, 0), 64);
        Check.due("moved", x.all(1, 3), 63);
        Check.due("first", x.first(0), 6);
        Check.due("last", x.first(1), 6);
        Check.due("over", x.over(9, 0), 60);
        Check.due("taken", x.taken(13, 6), 7);
        x.set(5, 1, 2);
        Check.due("of one that has", x.set(6, 1, 0), 7);
        Check.due("over", x.over(9, 0), 50);
    }

    private static void chained() {
        UpperFloors x = seven();
        x.set(5, 0, 1);
        x.set(6, 0, 0);
        x.chain(4, 3);
        x.chain(6, 5);
        x.chain(6, 5);
        Check.due("two chains", x.count(1), 2);
        Check.due("5 goes down, 6 up", x.all(1, 0), 32);
        Check.due("behind 0", x.all(0, 0), 64);
        Check.due("3 and 4 hold one another", x.all(24, 3), 24);
        Check.due("free of 3-4", x.frees(4, 6, 0), 34);
        Check.due("free of 5-6", x.frees(6, 6, 0), 56);
        Check.due("3 goes down and 6 up, 4 and 5 go alone", x.link(6, 0), 36);
        Check.due("all but 6 are down", x.link(6, 1), 6);
        x.set(0, 0, 0);
        x.set(1, 0, 0);
        x.set(2, 0, 0);
        x.set(4, 0, 0);
        Check.due("4 and 6 stay down, 3 and 5 go alone", x.link(6, 0), 46);
        Check.due("all are down", x.link(6, 1), 7);
        x.film(2, 1);
        Check.due("no chain catches here", x.times(2), 0x1fffffe);
        x.chain(6, 6);
        Check.due("on no chain", x.told(5, 2), -1);
        Check.due("one chain", x.count(1), 1);
    }
}
