/** Counts answers, and prints those that are not due. */
final class Check {
    private static int right;
    private static int wrong;

    private Check() { }

    static void due(String call, long got, long due) {
        if (got == due) right++;
        else {
            wrong++;
            if (wrong <= 40) System.out.println("  " + call + " answered " + got + ", due is " + due);
        }
    }

    static void holds(String what, boolean is) {
        due(what, is ? 1 : 0, 1);
    }

    static void end() {
        System.out.println("  " + right + " answers as due, " + wrong + " not");
        if (wrong > 0 || right == 0) System.exit(1);
    }

    /** Feeds a tape, five bytes a call. */
    static void feed(UpperFloors x, String bytes) {
        for (int i = 0; i < bytes.length(); i += 5) {
            int n = Math.min(5, bytes.length() - i);
            int[] b = new int[5];
            for (int k = 0; k < n; k++) b[k] = bytes.charAt(i + k);
            if (x.feed(n, b[0], b[1], b[2], b[3], b[4]) < 0) throw new IllegalStateException("no room: " + bytes);
        }
    }

    static int text(UpperFloors x, String bytes) {
        feed(x, bytes);
        return x.text();
    }

    /** A new object of which the law says so. */
    static UpperFloors under(String law) {
        UpperFloors x = new UpperFloors();
        if (text(x, law) != 1) throw new IllegalStateException("no text: " + law);
        x.force(1);
        return x;
    }

    /** What a text says of a house: kind 0, told 7, more 3, 2 people, 5 high, in minute 11. */
    static int value(String part, String e) {
        String zero = "0;";
        UpperFloors x = under("weighs " + (part.equals("weighs") ? e + ";" : zero)
            + "holds " + (part.equals("holds") ? e + ";" : zero)
            + "hits " + (part.equals("hits") ? e + ";" : zero));
        x.house(0, 7, 3);
        x.set(0, 0, 5);
        x.set(0, 1, 2);
        return x.asks(part.equals("weighs") ? 0 : part.equals("holds") ? 1 : 2, 0, 11);
    }

    static int value(String e) {
        return value("weighs", e);
    }

    static void sheet(UpperFloors x, int s, int sort, int... row) {
        x.sheet(s, sort, row.length);
        for (int i = 0; i < row.length; i++) x.cell(s, i, row[i]);
    }
}
