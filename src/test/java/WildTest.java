import java.util.Arrays;

/** Whatever the numbers and the state, a call answers, and what it refuses or only asks changes nothing. */
public final class WildTest {
    private static final int[] EDGES = {Integer.MIN_VALUE, -1, 0, 1, 6, 7, 24, 25, 40, 255, Integer.MAX_VALUE};
    private static final String CHANGING = " feed text force house set chain night dawn film image back sheet cell copy housesBy ";

    public static void main(String[] args) {
        for (int i = 0; i < Calls.NAMES.length; i++) {
            for (int state = 0; state < 5; state++) everyEdge(Calls.NAMES[i], Calls.SIZES[i], state);
        }
        refusals();
        longTapes();
        Check.end();
    }

    private static UpperFloors in(int state) {
        UpperFloors x = new UpperFloors();
        if (state == 0) return x;
        Draw draw = new Draw(state);
        for (int h = 0; h < (state == 4 ? 7 : 1 + 2 * state); h++) x.house(draw.to(6), draw.to(100), draw.to(10));
        for (int h = 0; h < 7; h++) x.set(h, 1, draw.to(21));
        x.chain(0, 1);
        x.chain(2, 5);
        for (int s = 0; s < 3; s++) x.sheet(s, s, state == 4 ? 7 : 40);
        if (state > 1) x.image();
        if (state > 2) {
            Check.text(x, "weighs 9999*9999*9999;holds -high;hits minute*speed;");
            x.force(1);
        }
        return x;
    }

    private static void everyEdge(String name, int size, int state) {
        // Long rows of numbers meet fewer edges each, so that all stays quick.
        int[] edges = size > 3 ? new int[] {Integer.MIN_VALUE, -1, 0, 2, Integer.MAX_VALUE} : EDGES;
        int many = 1;
        for (int i = 0; i < size; i++) many *= edges.length;
        UpperFloors x = in(state);
        for (int code = 0; code < many; code++) {
            int[] a = new int[size];
            for (int i = 0, rest = code; i < size; i++, rest /= edges.length) a[i] = edges[rest % edges.length];
            if (code % 400 == 0) x = in(state);
            try {
                Calls.call(x, name, a);
                Check.holds("answered", true);
            } catch (RuntimeException | StackOverflowError e) {
                Check.holds(name + Arrays.toString(a) + " in state " + state + " threw " + e, false);
            }
        }
    }

    /** All that can be asked of the state. */
    private static String seen(UpperFloors x) {
        StringBuilder all = new StringBuilder();
        for (int what = 0; what < 6; what++) all.append(x.count(what)).append(' ');
        for (int h = 0; h < x.count(0); h++) for (int what = 0; what < 6; what++) all.append(x.told(h, what)).append(' ');
        for (int s = 0; s < 4; s++) {
            all.append(x.times(s)).append('/');
            int size = 0;
            while (size < 41 && x.copy(s, size, s, size, 1) == 1) size++;
            all.append(x.copy(s, 0, s, 0, 0)).append('/').append(size).append(' ');
        }
        return all.append(x.all(24, 1)).append(' ').append(x.all(5, 2)).toString();
    }

    private static void refusals() {
        for (int run = 0; run < 150; run++) {
            Draw draw = new Draw(run);
            UpperFloors x = in(1 + run % 4);
            for (int call = 0; call < 200; call++) {
                int which = draw.to(Calls.NAMES.length);
                String name = Calls.NAMES[which];
                int[] a = draw.numbers(name);
                String before = seen(x);
                long answer = Calls.call(x, name, a);
                boolean changes = CHANGING.contains(" " + name + " ");
                boolean told = name.equals("text") && answer <= -100 || name.equals("housesBy") && answer == -12
                    || name.equals("chain") && answer == -1;
                if (!changes || answer < 0 && !told) Check.holds(name + Arrays.toString(a) + " changed what is there", before.equals(seen(x)));
            }
        }
    }

    private static void longTapes() {
        String[] repeated = {"(", "not ", "-", "- ", "1+", "told*", "1 or ", "1and ", "((1)", "not 1=", ")", ";", "9", "z", "\u00ff", "1<"};
        for (String part : repeated) {
            for (String head : new String[] {"", "weighs ", "weighs 1;holds ", "weighs 1;holds 1;hits ", "weighs 1;holds 1;hits 1;"}) {
                StringBuilder t = new StringBuilder(head);
                while (t.length() < 160) t.append(part);
                t.setLength(160);
                int answer = Check.text(new UpperFloors(), t.toString());
                Check.holds("a fault of '" + t + "'", answer <= -100 && answer >= -260);
            }
        }
    }
}
