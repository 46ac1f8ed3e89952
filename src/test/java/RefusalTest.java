import java.util.ArrayList;
import java.util.Arrays;
import java.util.List;

/**
 * Each number of each call, one row a promise: the least and the greatest that is taken, the next ones on either side
 * and the farthest ones, which are refused; of two refusals at once the first one told; none of them changes anything.
 */
public final class RefusalTest {
    private static final int MIN = Integer.MIN_VALUE, MAX = Integer.MAX_VALUE;

    /** One number of a call that is not as told, and what it is refused with. */
    private record Wrong(int at, int value, long due) { }

    public static void main(String[] args) {
        law();
        houses();
        dusk();
        thought();
        night();
        heights();
        lots();
        host();
        noHouses();
        full();
        noImage();
        answersOfMinusOne();
        toldChanges();
        asked();
        Check.end();
    }

    /**
     * A call with numbers that are taken; then its refusals in the order in which they are told, by the number's place:
     * "1:0..2:-5" taken from 0 to 2 and else refused with -5, "0=3:-11" 3 is refused with -11.
     */
    private static void row(Seen.Way way, String name, String good, String... told) {
        int[] fine = Arrays.stream(good.split(" ")).mapToInt(RefusalTest::number).toArray();
        holdsFor(name + " of " + good, Calls.call(Seen.made(way), name, fine));
        String before = Seen.of(way);
        List<List<Wrong>> all = new ArrayList<>();
        for (String one : told) {
            String[] p = one.split("[:=]");
            int at = Integer.parseInt(p[0]);
            List<Wrong> wrong = new ArrayList<>();
            if (one.contains("=")) wrong.add(new Wrong(at, number(p[1]), code(p[2])));
            else {
                String[] ends = p[1].split("\\.\\.");
                int least = number(ends[0]);
                int greatest = number(ends[1]);
                taken(way, name, fine, at, least);
                taken(way, name, fine, at, greatest);
                if (least > MIN) wrong.addAll(List.of(new Wrong(at, least - 1, code(p[2])), new Wrong(at, MIN, code(p[2]))));
                if (greatest < MAX) wrong.addAll(List.of(new Wrong(at, greatest + 1, code(p[2])), new Wrong(at, MAX, code(p[2]))));
            }
            all.add(wrong);
        }
        for (int i = 0; i < all.size(); i++) {
            for (Wrong first : all.get(i)) {
                refused(way, before, name, fine, first, first);
                for (int j = i + 1; j < all.size(); j++) {
                    for (Wrong second : all.get(j)) if (second.at != first.at) refused(way, before, name, fine, first, second);
                }
            }
        }
    }

    private static int number(String told) {
        return told.equals("MIN") ? MIN : told.equals("MAX") ? MAX : Integer.parseInt(told);
    }

    private static long code(String told) {
        return told.equals("NO") ? UpperFloors.NO : Long.parseLong(told);
    }

    private static void holdsFor(String call, long answer) {
        // -1 may be an answer, and below -99 only text() answers.
        Check.holds(call + " is taken, though it answered " + answer, answer >= -1);
    }

    private static void taken(Seen.Way way, String name, int[] fine, int at, int value) {
        int[] a = fine.clone();
        a[at] = value;
        holdsFor(name + Arrays.toString(a), Calls.call(Seen.made(way), name, a));
    }

    private static void refused(Seen.Way way, String before, String name, int[] fine, Wrong first, Wrong second) {
        int[] a = fine.clone();
        a[first.at] = first.value;
        a[second.at] = second.value;
        Check.due(name + Arrays.toString(a), Calls.call(Seen.made(way), name, a), first.due);
        String behind = Seen.of(x -> {
            way.go(x);
            Calls.call(x, name, a);
        });
        Check.holds(name + Arrays.toString(a) + " changes nothing", behind.equals(before));
    }

    private static void some(String name, String good, String... told) {
        row(Seen.SOME, name, good, told);
    }

    /** Promises 2 to 6. */
    private static void law() {
        some("count", "0", "0:0..5:-2");
        some("feed", "1 0 0 0 0 0", "0:1..5:-2", "1:0..255:-2", "2:0..255:-2", "3:0..255:-2", "4:0..255:-2", "5:0..255:-2");
        some("force", "1", "0:0..1:-2");
        row(Seen.NOTHING, "force", "0", "0:0..0:-2");
        row(Seen.ALL, "force", "1", "0:0..5:-2");
        some("asks", "1 1 1", "1:0..2:-5", "0:0..2:-7", "2:0..24:-7");
        row(Seen.ALL, "asks", "1 1 1", "1:0..6:-5", "0:0..2:-7", "2:0..24:-7");
    }

    /** Promises 7 to 10. */
    private static void houses() {
        some("house", "1 1 1", "0:0..5:-2", "1:0..99:-2", "2:0..9:-2");
        row(Seen.NOTHING, "house", "1 1 1", "0:0..5:-2", "1:0..99:-2", "2:0..9:-2");
        some("set", "1 0 1", "0:0..2:-5", "1:0..1:-7", "2:0..9:-7");
        some("set", "1 1 1", "0:0..2:-5", "1:0..1:-7", "2:0..20:-7");
        row(Seen.ALL, "set", "1 1 1", "0:0..6:-5", "1:0..1:-7", "2:0..20:-7");
        // What 0 takes less than what 1 does.
        some("set", "1 1 10", "1=0:-7");
        some("chain", "1 0", "0:0..2:-5", "1:0..2:-5");
        row(Seen.ALL, "chain", "1 4", "0:0..6:-5", "1:0..6:-5");
        some("told", "1 1", "0:0..2:-5", "1:0..5:-7");
        row(Seen.ALL, "told", "1 1", "0:0..6:-5", "1:0..5:-7");
    }

    /** Promises 11 to 14. */
    private static void dusk() {
        some("of", "1 1 1", "0:0..24:-5", "1:0..2:-5", "2:0..4:-7");
        row(Seen.ALL, "of", "1 1 1", "0:0..24:-5", "1:0..6:-5", "2:0..4:-7");
        some("all", "1 1", "0:0..24:-5", "1:0..3:-7");
        row(Seen.NOTHING, "all", "1 1", "0:0..24:-5", "1:0..3:-7");
        some("when", "1", "0:0..2:-5");
        row(Seen.ALL, "when", "1", "0:0..6:-5");
        some("first", "1", "0:0..1:-2");
        row(Seen.NOTHING, "first", "1", "0:0..1:-2");
    }

    /** Promises 15 to 20. */
    private static void thought() {
        some("bring", "1 1", "0:0..2:-5", "1:0..24:-7");
        row(Seen.ALL, "bring", "1 1", "0:0..6:-5", "1:0..24:-7");
        some("frees", "1 1 1", "0:0..2:-5", "1:0..24:-7", "2:0..1:-7");
        row(Seen.ALL, "frees", "1 1 1", "0:0..6:-5", "1:0..24:-7", "2:0..1:-7");
        some("hang", "1 1 1", "0:0..2:-5", "1:0..2:-5", "2:0..1:-7");
        row(Seen.ALL, "hang", "1 1 1", "0:0..6:-5", "1:0..6:-5", "2:0..1:-7");
        for (Seen.Way way : Seen.ways()) {
            row(way, "weight", "1 1 1", "0:0..20:-2", "1:0..24:-2", "2:0..1:-2");
            row(way, "over", "1 1", "0:0..24:-2", "1:0..1:-2");
            row(way, "link", "1 1", "0:0..24:-2", "1:0..1:-2");
        }
    }

    /** Promises 21 and 22. */
    private static void night() {
        for (Seen.Way way : Seen.ways()) {
            row(way, "night", "1", "0:0..24:-2");
            row(way, "dawn", "1", "0:0..9:-2");
        }
    }

    /** Promises 23 to 27: sheet 3 is missing, sheet 2 has five numbers for three houses. */
    private static void heights() {
        some("judge", "1 1", "0=-1:-2", "0=4:-2", "0=3:-11", "0=2:-2", "1:0..24:-7");
        some("times", "1", "0=-1:-2", "0=4:-2", "0=3:-11", "0=2:-2");
        some("laws", "1 1", "0=-1:-2", "0=4:-2", "0=3:-11", "0=2:-2", "1:0..24:-7");
        some("thief", "1 1 1", "0=-1:-2", "0=4:-2", "0=3:-11", "0=2:-2", "2:0..2:-5", "1:0..24:-7");
        some("film", "1 1", "0:0..3:-2", "1:0..24:-7");
        for (String name : new String[] {"judge", "laws", "film"}) row(Seen.ALL, name, "3 1", "0=-1:-2", "0=4:-2", "1:0..24:-7");
        row(Seen.ALL, "thief", "3 1 1", "0=-1:-2", "0=4:-2", "0=2:-2", "2:0..6:-5", "1:0..24:-7");
        // Of no houses a sheet of size 0 tells.
        Seen.Way empty = x -> {
            x.sheet(0, 0, 0);
            x.sheet(1, 0, 1);
        };
        for (String name : new String[] {"judge", "laws"}) {
            row(empty, name, "0 1", "0=-1:-2", "0=4:-2", "0=3:-11", "0=1:-2", "1:0..24:-7");
        }
        row(empty, "times", "0", "0=-1:-2", "0=4:-2", "0=3:-11", "0=1:-2");
        Check.due("thief of no houses", Seen.made(empty).thief(0, 25, 0), -5);
        row(Seen.NOTHING, "film", "1 1", "0:0..3:-2", "1:0..24:-7");
    }

    /** Promises 28 and 29. */
    private static void lots() {
        for (Seen.Way way : Seen.ways()) {
            row(way, "drawn", "1 1 1", "0:0..99999:-2", "1:0..24:-2", "2:0..100:-2");
            row(way, "odds", "1 1 1 1", "0:0..99999:NO", "1:0..24:NO", "2:0..100:NO", "3:0..1:NO");
        }
    }

    /** Promises 32 to 36: sheets 0 to 2 are of sorts 0 to 2 and of 3, 3, 5 numbers, sheet 3 is missing. */
    private static void host() {
        for (String good : new String[] {"1 0 0", "1 1 40", "1 2 1"}) {
            some("sheet", good, "0:0..3:-2", "1:-1..2:-2", "2=41:-2", "2=MAX:-2", "2=-1:-14", "2=MIN:-14");
        }
        for (String good : new String[] {"1 -1 0", "3 -1 41", "0 -1 -1", "2 -1 MAX", "2 -1 MIN"}) {
            some("sheet", good, "0:0..3:-2", "1=-2:-2", "1=3:-2");
        }
        some("cell", "1 1 1", "0=-1:-2", "0=4:-2", "0=3:-11", "1:0..2:-12", "2:MIN..MAX:0");
        some("cell", "2 1 1", "0=-1:-2", "0=4:-2", "0=3:-11", "1:0..4:-12", "2:MIN..MAX:0");
        row(Seen.ALL, "cell", "1 1 1", "0:0..3:-2", "1:0..39:-12");
        copies();
        some("housesBy", "2 2 0 1", "0=-1:-2", "0=4:-2", "1=-1:-2", "1=3:-2", "3=-1:-2", "3=8:-2", "3=MIN:-2", "3=MAX:-2",
            "0=3:-11", "0=1:-13", "1=0:-13", "2:0..2:-12");
        some("housesBy", "2 2 0 0", "0=-1:-2", "0=4:-2", "1=-1:-2", "1=3:-2", "0=3:-11", "0=1:-13", "1=0:-13");
        row(Seen.ALL, "housesBy", "0 0 0 7", "0=-1:-2", "0=4:-2", "1=-1:-2", "1=3:-2", "3:0..7:-2", "0=1:-13", "1=2:-13",
            "2:0..19:-12");
        row(Seen.ALL, "housesBy", "3 0 0 1", "0=1:-13", "1=2:-13", "2:0..4:-12", "3=3:-12");
        takings();
    }

    private static void copies() {
        String[] sheets = {"0=-1:-2", "0=4:-2", "2=-1:-2", "2=4:-2", "0=3:-11", "2=3:-11", "0=1:-13", "2=2:-13"};
        some("copy", "0 0 0 0 1", and(sheets, "1:0..2:-12", "3:0..2:-12", "4:0..3:-12"));
        some("copy", "0 1 0 0 2", and(sheets, "1:0..1:-12", "3:0..1:-12", "4:0..2:-12"));
        some("copy", "0 0 0 1 2", and(sheets, "1:0..1:-12", "3:0..1:-12", "4:0..2:-12"));
        some("copy", "0 0 0 0 0", and(sheets, "1:0..3:-12", "3:0..3:-12", "4:0..3:-12"));
        row(Seen.ALL, "copy", "0 0 3 0 1", "0=-1:-2", "0=4:-2", "2=-1:-2", "2=4:-2", "0=1:-13", "2=2:-13",
            "1:0..39:-12", "3:0..6:-12", "4:0..7:-12");
    }

    private static String[] and(String[] some, String... more) {
        String[] all = Arrays.copyOf(some, some.length + more.length);
        System.arraycopy(more, 0, all, some.length, more.length);
        return all;
    }

    private static void takings() {
        String[] kinds = {"1=-1:-2", "1=7:-2", "1=MIN:-2", "1=MAX:-2"};
        String[] places = {"0=-1:-12", "0=14:-12", "0=MIN:-12", "0=MAX:-12"};
        String[] nothing = {"0=3:-11", "0=6:-11", "0=7:-11", "0=10:-11", "0=13:-11"};
        some("taken", "1 0", and(and(and(kinds, places), nothing), "1=1:-13", "1=4:-13", "1=6:-13"));
        some("taken", "9 6", and(and(and(kinds, places), nothing), "1=0:-13", "1=5:-13"));
        row(Seen.ALL, "taken", "6 0", and(and(kinds, places), "1=1:-13", "1=6:-13"));
        row(Seen.ALL, "taken", "13 6", and(and(kinds, places), "1=0:-13", "1=5:-13"));
        for (int i = 0; i < 14; i++) Check.due("nothing there", Seen.made(Seen.NOTHING).taken(i, 0), -11);
    }

    // ---- what the state refuses

    private static void refuses(Seen.Way way, String name, long due, int... a) {
        Check.due(name + Arrays.toString(a), Calls.call(Seen.made(way), name, a), due);
        String behind = Seen.of(x -> {
            way.go(x);
            Calls.call(x, name, a);
        });
        Check.holds(name + Arrays.toString(a) + " changes nothing", behind.equals(Seen.of(way)));
    }

    /** -5: where there are no HOUSES, no number is one, ahead of what is wrong besides. */
    private static void noHouses() {
        for (int h : new int[] {MIN, -1, 0, 1, 6, 7, MAX}) {
            for (int wrong : new int[] {0, 99}) {
                refuses(Seen.NOTHING, "asks", -5, wrong, h, wrong);
                refuses(Seen.NOTHING, "set", -5, h, wrong, wrong);
                refuses(Seen.NOTHING, "told", -5, h, wrong);
                refuses(Seen.NOTHING, "of", -5, wrong, h, wrong);
                refuses(Seen.NOTHING, "bring", -5, h, wrong);
                refuses(Seen.NOTHING, "frees", -5, h, wrong, wrong);
                refuses(Seen.NOTHING, "hang", -5, h, h, wrong);
            }
            refuses(Seen.NOTHING, "chain", -5, h, h);
            refuses(Seen.NOTHING, "when", -5, h);
        }
    }

    /** FULL: HOUSES 7 at most, THE TAPE 160 bytes at most, TEXTS 6 at most; BAD ahead of it, where it is told ahead. */
    private static void full() {
        refuses(Seen.ALL, "house", -4, 0, 0, 0);
        refuses(Seen.ALL, "house", -4, 5, 99, 9);
        for (int[] bad : new int[][] {{-1, 0, 0}, {6, 0, 0}, {0, -1, 0}, {0, 100, 0}, {0, 0, -1}, {0, 0, 10}}) {
            refuses(Seen.ALL, "house", -2, bad);
        }
        for (int n = 1; n <= 5; n++) refuses(Seen.ALL, "feed", -4, n, 0, 255, 0, 255, 0);
        refuses(Seen.ALL, "feed", -2, 0, 0, 0, 0, 0, 0);
        refuses(Seen.ALL, "feed", -2, 6, 0, 0, 0, 0, 0);
        for (int i = 1; i <= 5; i++) {
            int[] a = {1, 0, 0, 0, 0, 0};
            a[i] = 256;
            refuses(Seen.ALL, "feed", -2, a);
        }
        refuses(Seen.ALL, "text", -4);
        for (int bytes = 155; bytes <= 160; bytes++) {
            int room = 160 - bytes;
            int there = bytes;
            Seen.Way way = x -> {
                for (int i = 0; i < there; i++) x.feed(1, i == there - 1 ? '!' : ' ', 0, 0, 0, 0);
            };
            for (int n = 1; n <= 5; n++) {
                if (n > room) refuses(way, "feed", -4, n, 65, 66, 67, 68, 69);
                else Check.due("feed of " + n + " to " + there, Seen.made(way).feed(n, 65, 66, 67, 68, 69), there + n);
            }
        }
    }

    /** STATE: there is no image; one of no houses is one. */
    private static void noImage() {
        refuses(Seen.NOTHING, "back", -3);
        refuses(x -> x.house(0, 1, 1), "back", -3);
        UpperFloors x = new UpperFloors();
        Check.due("an image of no houses", x.image(), 0);
        Check.due("it is one", x.back(), 0);
    }

    /** "(a -1 that is an answer comes behind the refusal of a number)": where each answer is -1, wrong numbers are told. */
    private static void answersOfMinusOne() {
        Seen.Way held = x -> {
            x.house(0, 0, 0);
            x.house(0, 0, 0);
            x.sheet(0, 0, 2);
            x.cell(0, 0, 9);
            x.cell(0, 1, 9);
        };
        String[] calls = {"first 0", "weight 0 0 0", "over 0 0", "link 0 0", "bring 0 0", "frees 0 0 0", "hang 0 1 0", "hang 0 1 1",
            "when 0", "of 0 0 2", "told 0 2", "judge 0 0"};
        String[] wrong = {"first 2", "weight 21 0 0", "weight 0 25 0", "weight 0 0 2", "over 25 0", "over 0 2", "link 25 0",
            "link 0 -1", "bring 0 25", "bring 2 0", "frees 0 25 0", "frees 0 0 2", "frees 2 0 0", "hang 0 1 2", "hang 0 2 0",
            "when 2", "of 25 0 2", "of 0 2 2", "told 2 2", "judge 0 25", "judge 4 0"};
        int[] due = {-2, -2, -2, -2, -2, -2, -2, -2, -7, -5, -7, -7, -5, -7, -5, -5, -5, -5, -5, -7, -2};
        for (String call : calls) {
            // weight() answers -1 where there are no HOUSES alone.
            Seen.Way way = call.startsWith("weight") ? Seen.NOTHING : held;
            Check.due(call, called(way, call), -1);
        }
        for (int i = 0; i < wrong.length; i++) {
            Seen.Way way = wrong[i].startsWith("weight") ? Seen.NOTHING : held;
            Check.due(wrong[i], called(way, wrong[i]), due[i]);
        }
    }

    private static long called(Seen.Way way, String call) {
        String[] p = call.split(" ");
        int[] a = new int[p.length - 1];
        for (int i = 0; i < a.length; i++) a[i] = Integer.parseInt(p[i + 1]);
        return Calls.call(Seen.made(way), p[0], a);
    }

    // ---- refused, and changed as told

    private static void toldChanges() {
        // "THE TAPE, which is empty then (by a FAULT, too)": that, and nothing else.
        Seen.Way empty = x -> {
            Seen.SOME.go(x);
            x.text();
        };
        UpperFloors x = Seen.made(Seen.SOME);
        Check.due("a fault", x.text(), -123);
        Check.due("the tape is empty", x.count(5), 0);
        Check.due("no text came", x.count(3), 2);
        Check.due("the law stays", x.count(4), 1);
        Check.due("an empty tape's fault", x.text(), -100);
        Check.holds("twice is no more than once", Seen.of(empty).equals(Seen.of(y -> {
            empty.go(y);
            y.text();
        })));
        // "-12: what stood ahead came."
        Seen.Way one = y -> {
            Seen.SOME.go(y);
            y.house(1, 3, 5);
        };
        for (int n = 2; n <= 7; n++) {
            int many = n;
            Check.due("the second has no room", Seen.made(Seen.SOME).housesBy(2, 2, 0, n), -12);
            Check.holds("the first came, and nothing else", Seen.of(one).equals(Seen.of(y -> {
                Seen.SOME.go(y);
                y.housesBy(2, 2, 0, many);
            })));
        }
    }

    /** "What is asked changes nothing, but where it is told." */
    private static void asked() {
        String asking = "count asks told of all when first bring weight over link frees hang judge times laws thief drawn odds taken";
        for (Seen.Way way : Seen.ways()) {
            String before = Seen.of(way);
            Draw draw = new Draw(7);
            for (String name : asking.split(" ")) {
                for (int i = 0; i < 12; i++) {
                    int[] a = draw.numbers(name);
                    if (name.matches("judge|times|laws|thief")) a[0] = i % 2 == 0 ? 0 : 3;
                    String behind = Seen.of(x -> {
                        way.go(x);
                        Calls.call(x, name, a);
                    });
                    Check.holds(name + Arrays.toString(a) + ", asked, changes nothing", behind.equals(before));
                }
            }
        }
    }
}
