import java.util.ArrayList;
import java.util.List;

/**
 * All that shows of an object that was made in some way. Each question goes to a new object made in that way, so that
 * no question disturbs another one, and none comes near an object's 512th call.
 */
final class Seen {
    /** What is done to a new object. */
    interface Way {
        void go(UpperFloors x);
    }

    private final Way way;
    private final StringBuilder all = new StringBuilder();

    private Seen(Way way) {
        this.way = way;
    }

    static String of(Way way) {
        Seen s = new Seen(way);
        s.town();
        s.laws();
        s.tape();
        s.image();
        for (int sheet = 0; sheet < 4; sheet++) s.sheet(sheet);
        return s.all.toString();
    }

    static UpperFloors made(Way way) {
        UpperFloors x = new UpperFloors();
        way.go(x);
        return x;
    }

    private void add(long answer) {
        all.append(answer).append(' ');
    }

    private void head(String what) {
        all.append('\n').append(what).append(": ");
    }

    private void told(UpperFloors x) {
        for (int what = 0; what < 6; what++) add(x.count(what));
        for (int h = 0; h < x.count(0); h++) {
            for (int what = 0; what < 6; what++) add(x.told(h, what));
        }
    }

    private void town() {
        head("houses");
        told(made(way));
        head("a dusk");
        UpperFloors x = made(way);
        for (int n = 0; n <= 24; n += 3) {
            for (int what = 0; what < 4; what++) add(x.all(n, what));
        }
    }

    private void laws() {
        int texts = made(way).count(3);
        for (int t = 0; t < texts; t++) {
            head("text " + t);
            UpperFloors x = made(way);
            x.force(t);
            // Of no house, a text says nothing: one comes, if there is room.
            x.house(0, 5, 1);
            for (int h = 0; h < x.count(0); h++) {
                for (int part = 0; part < 3; part++) add(x.asks(part, h, 7));
            }
        }
    }

    /** The tape's bytes show in the text that they are, with a ; behind them or without. */
    private void tape() {
        for (int more = 0; more < 2; more++) {
            head("the tape's text");
            UpperFloors x = made(way);
            if (more == 1) add(x.feed(1, ';', 0, 0, 0, 0));
            int t = x.text();
            add(t);
            add(x.force(t));
            x.house(0, 5, 1);
            for (int part = 0; part < 3; part++) add(x.asks(part, 0, 7));
        }
    }

    private void image() {
        head("the image");
        UpperFloors x = made(way);
        add(x.back());
        told(x);
    }

    private void sheet(int s) {
        head("sheet " + s);
        int size = 0;
        for (UpperFloors x = made(way); size < 41 && x.cell(s, size, 0) == 1; ) size++;
        int sort = -1;
        for (int i = 0; i < 3; i++) if (made(way).housesBy(s, i, 0, 0) == 0) sort = i;
        add(made(way).cell(s, size, 0));
        add(size);
        add(sort);
        for (int i = 0; i < size; i++) add(number(s, sort, i));
    }

    /** Number i of a sheet, if it is a height: the house's that judge() finds not otherwise; -1: it is none. */
    private int number(int s, int sort, int i) {
        UpperFloors x = made(way);
        if (x.count(0) == 0) x.house(0, 0, 0);
        int by = (s + 1) % 4;
        x.sheet(by, sort, x.count(0));
        for (int h = 0; h < x.count(0); h++) x.set(h, 0, 0);
        x.copy(s, i, by, 0, 1);
        for (int high = 0; high <= 9; high++) {
            x.set(0, 0, high);
            if (x.judge(by, 0) == -1) return high;
        }
        return -1;
    }

    // ---- ways that tests share

    /** Nothing there: no house, one text, an empty tape, no image, no sheet. */
    static final Way NOTHING = x -> { };

    /** Three houses, a chain, two texts, a tape that lacks its last byte, an image, sheets 0 to 2 of sorts 0 to 2. */
    static final Way SOME = x -> {
        x.house(1, 12, 2);
        x.house(5, 40, 3);
        x.set(0, 0, 6);
        x.image();
        x.house(4, 9, 5);
        Check.text(x, "weighs told+high;holds more;hits speed;");
        x.force(1);
        Check.feed(x, "weighs 7;holds 8;hits 9");
        x.chain(0, 2);
        x.set(0, 0, 8);
        x.set(1, 1, 4);
        x.set(2, 0, 3);
        x.set(2, 1, 20);
        Check.sheet(x, 0, 0, 8, 9, 3);
        Check.sheet(x, 1, 1, 2, 4, 6);
        Check.sheet(x, 2, 2, 1, 3, 5, 7, 9);
    };

    /** Seven houses, three chains, six texts, a tape of 160 bytes, an image of it all, sheets of 40. */
    static final Way ALL = x -> {
        for (int h = 0; h < 7; h++) {
            x.house(h % 6, 10 * h + 9, h + 1);
            x.set(h, 0, 9 - h);
            x.set(h, 1, 20);
        }
        x.chain(0, 6);
        x.chain(5, 1);
        x.chain(2, 3);
        for (int t = 1; t < 6; t++) Check.text(x, "weighs " + t + ";holds 0;hits " + t + ";");
        x.force(5);
        for (int i = 0; i < 32; i++) x.feed(5, 'n', 'o', 't', ' ', '(');
        x.image();
        for (int s = 0; s < 4; s++) {
            x.sheet(s, s % 3, s == 3 ? 7 : 40);
            x.cell(s, 0, s + 1);
            x.cell(s, 6, 9);
            if (s < 3) x.cell(s, 39, s + 5);
        }
    };

    static List<Way> ways() {
        return new ArrayList<>(List.of(NOTHING, SOME, ALL));
    }
}
