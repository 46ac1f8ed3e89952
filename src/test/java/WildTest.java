import java.util.Arrays;

/** Whatever the numbers and the state, a call answers, and what it refuses or only asks changes nothing. */
public final class WildTest {
    private static final int[] EDGES = {Integer.MIN_VALUE, -1, 0, 1, 6, 7, 24, 25, 40, 255, Integer.MAX_VALUE};
    private static final String CHANGING = " feed text force house set chain night dawn film image back sheet cell copy housesBy ";

    public static void main(String[] args) {
        for (int i = 0; i < Calls.NAMES.length; i++) {
            for (int state = 0; state < 5; state++) everyEdge(Calls.NAMES[i], Calls.SIZES[i], state);
        }
        refusals();
        longTapes();
        Check.end();
    }

    private static UpperFloors in(int state) {
        return Seen.made(x -> build(x, state));
    }

    private static void build(UpperFloors x, int state) {
        if (state == 0) return;
        Draw draw = new Draw(state);
        for (int h = 0; h < (state == 4 ? 7 : 1 + 2 * state); h++) x.house(draw.to(6), draw.to(100), draw.to(10));
        for (int h = 0; h < 7; h++) x.set(h, 1, draw.to(21));
        x.chain(0, 1);
        x.chain(2, 5);
        for (int s = 0; s < 3; s++) x.sheet(s, s, state == 4 ? 7 : 40);
        if (state > 1) x.image();
        if (state > 2) {
            Check.text(x, "weighs 9999*9999*9999;holds -high;hits minute*speed;");
            x.force(1);
        }
    }

    private static void everyEdge(String name, int size, int state) {
        // Long rows of numbers meet fewer edges each, so that all stays quick.
        int[] edges = size > 3 ? new int[] {Integer.MIN_VALUE, -1, 0, 2, Integer.MAX_VALUE} : EDGES;
        int many = 1;
        for (int i = 0; i < size; i++) many *= edges.length;
        UpperFloors x = in(state);
        for (int code = 0; code < many; code++) {
            int[] a = new int[size];
            for (int i = 0, rest = code; i < size; i++, rest /= edges.length) a[i] = edges[rest % edges.length];
            if (code % 400 == 0) x = in(state);
            try {
                Calls.call(x, name, a);
                Check.holds("answered", true);
            } catch (RuntimeException | StackOverflowError e) {
                Check.holds(name + Arrays.toString(a) + " in state " + state + " threw " + e, false);
            }
        }
    }

    private static void refusals() {
        for (int run = 0; run < 3000; run++) {
            Draw draw = new Draw(run);
            int state = run % 5;
            String name = draw.pick(Calls.NAMES);
            int[] a = draw.numbers(name);
            long answer = Calls.call(in(state), name, a);
            boolean changes = CHANGING.contains(" " + name + " ");
            boolean told = name.equals("text") && answer <= -100 || name.equals("housesBy") && answer == -12
                || name.equals("chain") && answer == -1;
            if (changes && (answer >= 0 || told)) continue;
            String before = Seen.of(x -> build(x, state));
            String behind = Seen.of(x -> {
                build(x, state);
                Calls.call(x, name, a);
            });
            Check.holds(name + Arrays.toString(a) + " changed what is there", before.equals(behind));
        }
    }

    private static void longTapes() {
        String[] repeated = {"(", "not ", "-", "- ", "1+", "told*", "1 or ", "1and ", "((1)", "not 1=", ")", ";", "9", "z", "\u00ff", "1<"};
        for (String part : repeated) {
            for (String head : new String[] {"", "weighs ", "weighs 1;holds ", "weighs 1;holds 1;hits ", "weighs 1;holds 1;hits 1;"}) {
                StringBuilder t = new StringBuilder(head);
                while (t.length() < 160) t.append(part);
                t.setLength(160);
                int answer = Check.text(new UpperFloors(), t.toString());
                Check.holds("a fault of '" + t + "'", answer <= -100 && answer >= -260);
            }
        }
    }
}
