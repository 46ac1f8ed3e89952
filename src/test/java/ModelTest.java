import java.util.Arrays;

/** Runs of drawn calls: the program answers as the model does. */
public final class ModelTest {
    private static final int RUNS = 250;
    private static final int CALLS = 512;

    public static void main(String[] args) {
        for (int run = 0; run < RUNS; run++) compare(run);
        texts();
        Check.end();
    }

    private static void compare(int run) {
        Draw draw = new Draw(run);
        UpperFloors x = new UpperFloors();
        Model m = new Model();
        int calls = 0;
        int homes = 1 + draw.to(7);
        for (int i = 0; i < homes; i++, calls++) one(run, x, m, "house", draw.numbers("house"));
        // Some runs change what is there rarely, so that many questions meet one state.
        int restless = 2 + draw.to(4);
        for (int i = 0; i < homes; i++, calls++) one(run, x, m, "set", draw.numbers("set"));
        while (calls < CALLS) {
            // What is answered behind the 512th call is free, so no row of calls begins that might pass it.
            boolean room = calls < CALLS - 50;
            if (room && draw.oneIn(30)) calls += feed(run, x, m, draw.text());
            if (room && draw.oneIn(20)) calls += tell(run, x, m, draw);
            String name = draw.pick(Calls.NAMES);
            boolean rare = name.equals("back") || name.equals("dawn") || name.equals("night") || name.equals("feed");
            if (rare && !draw.oneIn(restless)) continue;
            one(run, x, m, name, draw.numbers(name));
            calls++;
        }
    }

    private static void one(int run, UpperFloors x, Model m, String name, int[] a) {
        Check.due("run " + run + ": " + name + Arrays.toString(a), Calls.call(x, name, a), m.call(name, a));
    }

    /** A sheet is filmed with other people in a house than there are later, when it is asked for. */
    private static int tell(int run, UpperFloors x, Model m, Draw draw) {
        int s = draw.to(4);
        int n = draw.to(25);
        int h = draw.to(7);
        one(run, x, m, "set", new int[] {h, 1, draw.to(21)});
        if (draw.oneIn(2)) one(run, x, m, "force", new int[] {draw.to(6)});
        one(run, x, m, "film", new int[] {s, n});
        one(run, x, m, "set", new int[] {h, 1, draw.to(6)});
        one(run, x, m, "thief", new int[] {s, n, h});
        one(run, x, m, "laws", new int[] {s, n});
        one(run, x, m, "judge", new int[] {s, n});
        one(run, x, m, "times", new int[] {s});
        return 8;
    }

    private static int feed(int run, UpperFloors x, Model m, String text) {
        if (m.tape.length() > 0) one(run, x, m, "text", new int[0]);
        int calls = 1;
        for (int i = 0; i < text.length(); i += 5, calls++) {
            int n = Math.min(5, text.length() - i);
            int[] a = {n, 0, 0, 0, 0, 0};
            for (int k = 0; k < n; k++) a[k + 1] = text.charAt(i + k);
            one(run, x, m, "feed", a);
        }
        one(run, x, m, "text", new int[0]);
        one(run, x, m, "force", new int[] {m.texts.size() - 1});
        return calls + 2;
    }

    private static void texts() {
        for (int i = 0; i < 20000; i++) {
            String text = new Draw(1000000 + i).text();
            Model m = new Model();
            UpperFloors x = new UpperFloors();
            Check.feed(x, text);
            m.tape.append(text);
            int number = x.text();
            Check.due("text '" + text + "'", number, m.call("text", new int[0]));
            if (number != 1) continue;
            Draw draw = new Draw(i);
            for (String name : new String[] {"house", "set", "set", "set", "set"}) {
                int[] a = draw.numbers(name);
                if (name.equals("set")) a[0] = 0;
                Check.due(name, Calls.call(x, name, a), m.call(name, a));
            }
            x.force(1);
            m.call("force", new int[] {1});
            for (int part = 0; part < 3; part++) {
                int[] a = {part, 0, draw.to(25)};
                Check.due("asks of '" + text + "'", Calls.call(x, "asks", a), m.call("asks", a));
            }
            Check.due("hits of '" + text + "'", x.of(24, 0, 3), m.call("of", new int[] {24, 0, 3}));
        }
    }
}
