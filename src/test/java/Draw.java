/** Draws calls and texts, the same ones for the same seed. */
final class Draw {
    private long state;

    Draw(long seed) {
        state = seed * 0x9E3779B97F4A7C15L + 0x1234567;
    }

    /** 0 .. below - 1. */
    int to(int below) {
        state = state * 6364136223846793005L + 1442695040888963407L;
        return (int) Long.remainderUnsigned(state >>> 20, below);
    }

    boolean oneIn(int many) {
        return to(many) == 0;
    }

    String pick(String... of) {
        return of[to(of.length)];
    }

    // ---- texts

    String text() {
        StringBuilder t = new StringBuilder();
        t.append("weighs ").append(e(2)).append(blank()).append(";").append(blank()).append("holds ")
            .append(oneIn(2) ? "" + to(8) : e(1)).append(";hits ").append(oneIn(2) ? "speed*3" : e(2)).append(blank()).append(";");
        while (oneIn(3)) spoil(t);
        if (t.length() > 160) t.setLength(160);
        return t.toString();
    }

    private String blank() {
        return pick("", "", " ", "\n", "  ");
    }

    private void spoil(StringBuilder t) {
        int at = to(t.length() + 1);
        if (oneIn(2)) t.insert(at, pick("(", ")", "-", "not ", " not not not(", "((((", "---", "12", "99999", "or", " ", "x", "!", ";", "<"));
        else if (at < t.length()) t.deleteCharAt(at);
    }

    private String e(int deep) {
        String e = both(deep);
        while (oneIn(6)) e += " or " + both(deep);
        return e;
    }

    private String both(int deep) {
        String e = unless(deep);
        while (oneIn(6)) e += " and " + unless(deep);
        return e;
    }

    private String unless(int deep) {
        if (oneIn(8)) return "not " + unless(deep - 1);
        String e = sum(deep);
        if (oneIn(4)) e += pick("<", "=", " < ") + sum(deep);
        return e;
    }

    private String sum(int deep) {
        String e = term(deep);
        while (oneIn(3)) e += blank() + pick("+", "+", "-") + blank() + term(deep);
        return e;
    }

    private String term(int deep) {
        String e = one(deep);
        while (oneIn(4)) e += blank() + "*" + blank() + one(deep);
        return e;
    }

    private String one(int deep) {
        if (deep > 0 && oneIn(4)) return "(" + e(deep - 1) + ")";
        if (oneIn(10)) return "-" + one(deep);
        if (oneIn(3)) return "" + to(pick("5", "12", "30").equals("5") ? 5 : 30);
        return pick("told", "told", "people", "people", "more", "high", "minute", "speed", "told", "9999");
    }

    // ---- calls

    int edge() {
        return new int[] {-1, -2, 0, 1, 7, 25, 99, 101, 256, Integer.MAX_VALUE, Integer.MIN_VALUE, Integer.MAX_VALUE - 1}[to(12)];
    }

    /** Mostly numbers that are as told. */
    int[] numbers(String name) {
        int[] a;
        switch (name) {
            case "count": a = new int[] {to(6)}; break;
            case "feed": a = new int[] {1 + to(5), to(256), to(256), to(256), to(256), to(256)}; break;
            case "force": a = new int[] {to(6)}; break;
            case "asks": a = new int[] {to(3), h(), n()}; break;
            case "house": a = new int[] {to(6), oneIn(2) ? to(100) : to(20), to(10)}; break;
            case "set": a = oneIn(2) ? new int[] {h(), 0, to(10)} : new int[] {h(), 1, oneIn(2) ? to(21) : to(4)}; break;
            case "chain": a = new int[] {h(), h()}; break;
            case "told": a = new int[] {h(), to(6)}; break;
            case "of": a = new int[] {n(), h(), to(5)}; break;
            case "all": a = new int[] {n(), to(4)}; break;
            case "when": a = new int[] {h()}; break;
            case "first": a = new int[] {to(2)}; break;
            case "bring": a = new int[] {h(), n()}; break;
            case "weight": a = new int[] {oneIn(2) ? to(21) : to(4), n(), to(2)}; break;
            case "over": a = new int[] {n(), to(2)}; break;
            case "link": a = new int[] {n(), to(2)}; break;
            case "frees": a = new int[] {h(), n(), to(2)}; break;
            case "hang": a = new int[] {h(), h(), to(2)}; break;
            case "night": a = new int[] {oneIn(2) ? to(3) : n()}; break;
            case "dawn": a = new int[] {to(10)}; break;
            default: a = more(name);
        }
        if (a.length > 0 && oneIn(12)) a[to(a.length)] = edge();
        return a;
    }

    private int[] more(String name) {
        switch (name) {
            case "judge": return new int[] {to(4), n()};
            case "times": return new int[] {to(4)};
            case "laws": return new int[] {to(4), n()};
            case "thief": return new int[] {to(4), n(), h()};
            case "film": return new int[] {to(4), n()};
            case "drawn": return new int[] {to(100000), n(), to(101)};
            case "odds": return new int[] {to(100000), n(), to(101), to(2)};
            case "sheet": return new int[] {to(4), to(4) - 1, oneIn(3) ? to(41) : to(12)};
            case "cell": return new int[] {to(4), to(12), oneIn(6) ? to(70000) - 300 : to(12)};
            case "copy": return new int[] {to(4), to(6), to(4), to(6), to(6)};
            case "housesBy": return new int[] {to(4), to(3), to(8), to(4)};
            case "taken": return new int[] {to(14), to(7)};
            default: return new int[0];
        }
    }

    private int h() {
        return to(7);
    }

    private int n() {
        return oneIn(3) ? to(6) : to(25);
    }
}
