/** Calls by name, so that a run can be drawn. */
final class Calls {
    static final String[] NAMES = {"count", "feed", "text", "force", "asks", "house", "set", "chain", "told", "of", "all", "when",
        "first", "bring", "weight", "over", "link", "frees", "hang", "night", "dawn", "judge", "times", "laws", "thief", "film",
        "drawn", "odds", "image", "back", "sheet", "cell", "copy", "housesBy", "taken"};
    static final int[] SIZES = {1, 6, 0, 1, 3, 3, 3, 2, 2, 3, 2, 1,
        1, 2, 3, 2, 2, 3, 3, 1, 1, 2, 1, 2, 3, 2,
        3, 4, 0, 0, 3, 3, 5, 4, 2};

    private Calls() { }

    static long call(UpperFloors x, String name, int[] a) {
        switch (name) {
            case "count": return x.count(a[0]);
            case "feed": return x.feed(a[0], a[1], a[2], a[3], a[4], a[5]);
            case "text": return x.text();
            case "force": return x.force(a[0]);
            case "asks": return x.asks(a[0], a[1], a[2]);
            case "house": return x.house(a[0], a[1], a[2]);
            case "set": return x.set(a[0], a[1], a[2]);
            case "chain": return x.chain(a[0], a[1]);
            case "told": return x.told(a[0], a[1]);
            case "of": return x.of(a[0], a[1], a[2]);
            case "all": return x.all(a[0], a[1]);
            case "when": return x.when(a[0]);
            case "first": return x.first(a[0]);
            case "bring": return x.bring(a[0], a[1]);
            case "weight": return x.weight(a[0], a[1], a[2]);
            case "over": return x.over(a[0], a[1]);
            case "link": return x.link(a[0], a[1]);
            case "frees": return x.frees(a[0], a[1], a[2]);
            default: return called(x, name, a);
        }
    }

    private static long called(UpperFloors x, String name, int[] a) {
        switch (name) {
            case "hang": return x.hang(a[0], a[1], a[2]);
            case "night": return x.night(a[0]);
            case "dawn": return x.dawn(a[0]);
            case "judge": return x.judge(a[0], a[1]);
            case "times": return x.times(a[0]);
            case "laws": return x.laws(a[0], a[1]);
            case "thief": return x.thief(a[0], a[1], a[2]);
            case "film": return x.film(a[0], a[1]);
            case "drawn": return x.drawn(a[0], a[1], a[2]);
            case "odds": return x.odds(a[0], a[1], a[2], a[3]);
            case "image": return x.image();
            case "back": return x.back();
            case "sheet": return x.sheet(a[0], a[1], a[2]);
            case "cell": return x.cell(a[0], a[1], a[2]);
            case "copy": return x.copy(a[0], a[1], a[2], a[3], a[4]);
            case "housesBy": return x.housesBy(a[0], a[1], a[2], a[3]);
            case "taken": return x.taken(a[0], a[1]);
            default: throw new IllegalArgumentException(name);
        }
    }
}
