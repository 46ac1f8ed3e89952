import java.util.ArrayList;
import java.util.Arrays;
import java.util.List;
import java.util.Map;
import java.util.TreeMap;
import java.util.function.BiPredicate;

/**
 * The document once more, written otherwise: texts as trees, chains as a map, each dusk kept whole, and lists made
 * anew wherever it likes.
 */
final class Model {
    static final long NO = -4611686018427387904L;

    /** Values of an E by the names' values. */
    interface Tree {
        int of(Map<String, Integer> names);
    }

    /** A place at which a text is at fault. */
    static final class Fault extends Exception {
        final int place;

        Fault(int place) {
            super("at " + place, null, false, false);
            this.place = place;
        }
    }

    record Token(String word, int place) { }

    static final class Home {
        int kind, told, more, high = 9, people;

        Home twin() {
            Home h = new Home();
            h.kind = kind;
            h.told = told;
            h.more = more;
            h.high = high;
            h.people = people;
            return h;
        }
    }

    static final class World {
        List<Home> homes = new ArrayList<>();
        Map<Integer, Integer> chains = new TreeMap<>();
        int law;

        World twin() {
            World w = new World();
            for (Home h : homes) w.homes.add(h.twin());
            w.chains.putAll(chains);
            w.law = law;
            return w;
        }

        int other(int h) {
            for (var c : chains.entrySet()) {
                if (c.getKey() == h) return c.getValue();
                if (c.getValue() == h) return c.getKey();
            }
            return -1;
        }

        void loosen(int h) {
            chains.entrySet().removeIf(c -> c.getKey() == h || c.getValue() == h);
        }

        void join(int a, int b) {
            loosen(a);
            loosen(b);
            if (a != b) chains.put(Math.min(a, b), Math.max(a, b));
        }
    }

    // ---- texts

    static List<Token> tokens(String tape) {
        List<Token> all = new ArrayList<>();
        int i = 0;
        while (i < tape.length()) {
            char c = tape.charAt(i);
            int from = i;
            if (c == ' ' || c == '\n') {
                i++;
                continue;
            }
            if (c >= 'a' && c <= 'z') while (i < tape.length() && tape.charAt(i) >= 'a' && tape.charAt(i) <= 'z') i++;
            else if (c >= '0' && c <= '9') while (i < tape.length() && tape.charAt(i) >= '0' && tape.charAt(i) <= '9') i++;
            else i++;
            all.add(new Token(tape.substring(from, i), from));
        }
        all.add(new Token("", tape.length()));
        return all;
    }

    static final class Parser {
        final List<Token> tokens;
        int at;
        int open;

        Parser(String tape) {
            tokens = tokens(tape);
        }

        String now() {
            return tokens.get(at).word;
        }

        Fault fault() {
            return new Fault(tokens.get(at).place);
        }

        void due(String word) throws Fault {
            if (!now().equals(word)) throw fault();
            at++;
        }

        Tree[] whole() throws Fault {
            Tree[] parts = new Tree[3];
            String[] keys = {"weighs", "holds", "hits"};
            for (int i = 0; i < 3; i++) {
                due(keys[i]);
                parts[i] = chainOf(0);
                due(";");
            }
            if (!now().isEmpty()) throw fault();
            return parts;
        }

        /** Levels of binary signs: or, and, (comparing), plus and minus, times. */
        Tree chainOf(int level) throws Fault {
            if (level == 2) return comparing();
            if (level == 5) return single();
            List<String> signs = List.of(List.of("or"), List.of("and"), List.of(""), List.of("+", "-"), List.of("*")).get(level);
            Tree left = chainOf(level + 1);
            while (signs.contains(now())) {
                String sign = now();
                at++;
                left = joined(sign, left, chainOf(level + 1));
            }
            return left;
        }

        Tree comparing() throws Fault {
            if (now().equals("not")) {
                deeper();
                Tree of = comparing();
                open--;
                return names -> of.of(names) == 0 ? 1 : 0;
            }
            Tree left = chainOf(3);
            if (!now().equals("<") && !now().equals("=")) return left;
            String sign = now();
            at++;
            return joined(sign, left, chainOf(3));
        }

        void deeper() throws Fault {
            if (open == 5) throw fault();
            open++;
            at++;
        }

        Tree single() throws Fault {
            String word = now();
            if (word.matches("[0-9]{1,4}")) {
                at++;
                int number = Integer.parseInt(word);
                return names -> number;
            }
            if (List.of("told", "people", "more", "high", "minute", "speed").contains(word)) {
                at++;
                return names -> names.get(word);
            }
            if (word.equals("-")) {
                deeper();
                Tree of = single();
                open--;
                return names -> -of.of(names);
            }
            if (word.equals("(")) {
                deeper();
                Tree of = chainOf(0);
                due(")");
                open--;
                return of;
            }
            throw fault();
        }

        static Tree joined(String sign, Tree a, Tree b) {
            return switch (sign) {
                case "or" -> n -> a.of(n) != 0 | b.of(n) != 0 ? 1 : 0;
                case "and" -> n -> a.of(n) != 0 & b.of(n) != 0 ? 1 : 0;
                case "<" -> n -> a.of(n) < b.of(n) ? 1 : 0;
                case "=" -> n -> a.of(n) == b.of(n) ? 1 : 0;
                case "+" -> n -> a.of(n) + b.of(n);
                case "-" -> n -> a.of(n) - b.of(n);
                default -> n -> a.of(n) * b.of(n);
            };
        }
    }

    // ---- a dusk

    /** All that a dusk of 24 minutes shows: behind each n, by each house. */
    final class Shown {
        final int[][] high = new int[25][];
        final int[][] moved = new int[25][];
        final int[][] last = new int[25][];
        final int[][] cost = new int[25][];

        int down(int n) {
            return (int) Arrays.stream(high[n]).filter(v -> v == 0).count();
        }

        int when(int h) {
            for (int n = 0; n < 25; n++) if (high[n][h] == 0) return n;
            return -1;
        }
    }

    int says(World w, int part, int h, int minute, int speed) {
        Home home = w.homes.get(h);
        int v = texts.get(w.law)[part].of(Map.of("told", home.told, "people", home.people, "more", home.more,
            "high", home.high, "minute", minute, "speed", speed));
        return v < 0 ? 0 : Math.min(v, part == 0 ? 999 : 99);
    }

    int weighs(World w, int h, int minute) {
        Home home = w.homes.get(h);
        int v = says(w, 0, h, minute, 0);
        if (home.kind == 1 || home.kind == 3) v += 3 * home.more;
        if (home.kind == 3 && home.high < 5) v *= 2;
        return home.kind == 5 ? v + home.high : v;
    }

    int holds(World w, int h, int minute) {
        Home home = w.homes.get(h);
        return says(w, 1, h, minute, 0) + (home.kind == 2 || home.kind == 4 ? home.more : 0);
    }

    boolean free(World w, int h, int minute) {
        Home home = w.homes.get(h);
        return !(home.kind == 4 && home.high == home.more) && !(home.kind == 5 && minute < home.more);
    }

    Shown show(World start, BiPredicate<Integer, Integer> catches) {
        World w = start.twin();
        int size = w.homes.size();
        int[] run = new int[size];
        int[] moved = new int[size];
        int[] last = new int[size];
        int[] cost = new int[size];
        Arrays.fill(last, -1);
        Shown s = new Shown();
        for (int n = 0; n <= 24; n++) {
            s.high[n] = w.homes.stream().mapToInt(h -> h.high).toArray();
            s.moved[n] = moved.clone();
            s.last[n] = last.clone();
            s.cost[n] = cost.clone();
            if (n == 24) break;
            for (int h = 0; h < size; h++) {
                int goes = -1;
                int rises = -1;
                int other = w.other(h);
                if (other != -1 && other < h) continue;
                if (other == -1) {
                    if (weighs(w, h, n) > holds(w, h, n) && w.homes.get(h).high > 0 && free(w, h, n)) goes = h;
                } else {
                    boolean lesser = weighs(w, h, n) > weighs(w, other, n);
                    int d = lesser ? h : other;
                    int u = lesser ? other : h;
                    if (weighs(w, d, n) - weighs(w, u, n) > holds(w, d, n) + holds(w, u, n) && free(w, d, n) && free(w, u, n)
                        && w.homes.get(d).high > 0 && w.homes.get(u).high < 9 && !catches.test(n, h)) {
                        goes = d;
                        rises = u;
                    }
                }
                for (int each : other == -1 ? new int[] {h} : new int[] {h, other}) if (each != goes) run[each] = 0;
                if (rises >= 0) {
                    w.homes.get(rises).high++;
                    moved[rises]++;
                }
                if (goes >= 0) {
                    w.homes.get(goes).high--;
                    moved[goes]++;
                    run[goes]++;
                    if (w.homes.get(goes).high == 0) {
                        cost[goes] += says(w, 2, goes, n, run[goes]);
                        last[goes] = n;
                        run[goes] = 0;
                    }
                }
            }
        }
        return s;
    }

    Shown show(World w) {
        return show(w, (minute, h) -> false);
    }

    Shown draw(int seed, int hundredth) {
        boolean[][] caught = new boolean[24][7];
        long lot = seed + 1L;
        for (int minute = 0; minute < 24; minute++) {
            for (int lesser : world.chains.keySet()) {
                lot = lot * 48271 % 2147483647;
                caught[minute][lesser] = lot % 100 < hundredth;
            }
        }
        return show(world, (minute, h) -> caught[minute][h]);
    }

    // ---- the state and the calls

    World world = new World();
    World imaged;
    List<Tree[]> texts = new ArrayList<>();
    StringBuilder tape = new StringBuilder();
    int[][] sheets = new int[4][];
    int[] sorts = new int[4];

    Model() {
        try {
            texts.add(new Parser("weighs told + people * 5 ; holds 2 ; hits speed * people ;").whole());
        } catch (Fault e) {
            throw new IllegalStateException(e);
        }
    }

    int size() {
        return world.homes.size();
    }

    boolean house(int h) {
        return h >= 0 && h < size();
    }

    static boolean in(int v, int a, int b) {
        return a <= v && v <= b;
    }

    static boolean span(int n) {
        return in(n, 0, 24);
    }

    long call(String name, int[] a) {
        switch (name) {
            case "count": return count(a[0]);
            case "feed": return feed(a);
            case "text": return text();
            case "force":
                if (!in(a[0], 0, texts.size() - 1)) return -2;
                int was = world.law;
                world.law = a[0];
                return was;
            case "asks":
                if (!house(a[1])) return -5;
                return in(a[0], 0, 2) && span(a[2]) ? says(world, a[0], a[1], a[2], 0) : -7;
            case "house": return build(a[0], a[1], a[2]);
            case "set": return set(a[0], a[1], a[2]);
            case "chain":
                if (!house(a[0]) || !house(a[1])) return -5;
                int with = world.other(a[0]);
                world.join(a[0], a[1]);
                return with;
            case "told": return told(a[0], a[1]);
            case "of": return of(a[0], a[1], a[2]);
            case "all": return all(a[0], a[1]);
            case "when": return house(a[0]) ? show(world).when(a[0]) : -5;
            case "first": return first(a[0]);
            default: return called(name, a);
        }
    }

    private long called(String name, int[] a) {
        switch (name) {
            case "bring": return bring(a[0], a[1]);
            case "weight": return weight(a[0], a[1], a[2]);
            case "over": return over(a[0], a[1]);
            case "link": return link(a[0], a[1]);
            case "frees": return frees(a[0], a[1], a[2]);
            case "hang": return hang(a[0], a[1], a[2]);
            case "night": return night(a[0]);
            case "dawn": return dawn(a[0]);
            case "judge": return judge(a[0], a[1]);
            case "times": return times(a[0]);
            case "laws": return laws(a[0], a[1]);
            case "thief": return thief(a[0], a[1], a[2]);
            case "film": return film(a[0], a[1]);
            case "drawn":
                return in(a[0], 0, 99999) && span(a[1]) && in(a[2], 0, 100) ? draw(a[0], a[2]).down(a[1]) : -2;
            case "odds": return odds(a);
            case "image":
                imaged = world.twin();
                return size();
            case "back":
                if (imaged == null) return -3;
                world = imaged.twin();
                return size();
            case "sheet": return sheet(a[0], a[1], a[2]);
            case "cell": return cell(a[0], a[1], a[2]);
            case "copy": return copy(a[0], a[1], a[2], a[3], a[4]);
            case "housesBy": return housesBy(a[0], a[1], a[2], a[3]);
            case "taken": return taken(a[0], a[1]);
            default: throw new IllegalArgumentException(name);
        }
    }

    private int count(int what) {
        int people = world.homes.stream().mapToInt(h -> h.people).sum();
        int[] all = {size(), world.chains.size(), people, texts.size(), world.law, tape.length()};
        return in(what, 0, 5) ? all[what] : -2;
    }

    private int feed(int[] a) {
        if (!in(a[0], 1, 5)) return -2;
        for (int i = 1; i <= 5; i++) if (!in(a[i], 0, 255)) return -2;
        if (tape.length() + a[0] > 160) return -4;
        for (int i = 1; i <= a[0]; i++) tape.append((char) a[i]);
        return tape.length();
    }

    private int text() {
        if (texts.size() == 6) return -4;
        String read = tape.toString();
        tape.setLength(0);
        try {
            texts.add(new Parser(read).whole());
            return texts.size() - 1;
        } catch (Fault fault) {
            return -100 - fault.place;
        }
    }

    private int build(int kind, int told, int more) {
        if (!in(kind, 0, 5) || !in(told, 0, 99) || !in(more, 0, 9)) return -2;
        if (size() == 7) return -4;
        Home h = new Home();
        h.kind = kind;
        h.told = told;
        h.more = more;
        world.homes.add(h);
        return size() - 1;
    }

    private int set(int h, int what, int v) {
        if (!house(h)) return -5;
        if (!in(what, 0, 1) || !in(v, 0, what == 0 ? 9 : 20)) return -7;
        int was = told(h, what);
        if (what == 0) world.homes.get(h).high = v;
        else world.homes.get(h).people = v;
        return was;
    }

    private int told(int h, int what) {
        if (!house(h)) return -5;
        if (!in(what, 0, 5)) return -7;
        Home at = world.homes.get(h);
        return new int[] {at.high, at.people, world.other(h), at.kind, at.told, at.more}[what];
    }

    private int of(int n, int h, int what) {
        if (!span(n) || !house(h)) return -5;
        if (!in(what, 0, 4)) return -7;
        Shown s = show(world);
        World then = world.twin();
        then.homes.get(h).high = s.high[n][h];
        return new int[] {s.high[n][h], s.moved[n][h], s.last[n][h], s.cost[n][h], weighs(then, h, n)}[what];
    }

    private int all(int n, int what) {
        if (!span(n)) return -5;
        if (!in(what, 0, 3)) return -7;
        Shown s = show(world);
        int down = 0;
        int still = 0;
        for (int h = 0; h < size(); h++) {
            if (s.high[n][h] == 0) down += 1 << h;
            if (s.moved[n][h] == 0) still += 1 << h;
        }
        return new int[] {down, Arrays.stream(s.cost[n]).sum(), Arrays.stream(s.high[n]).sum(), still}[what];
    }

    private int first(int what) {
        if (!in(what, 0, 1)) return -2;
        int best = -1;
        for (int h = size() - 1; h >= 0; h--) {
            int n = show(world).when(h);
            if (n < 0) continue;
            int so = best < 0 ? n : show(world).when(best);
            if (what == 0 ? n <= so : n >= so) best = h;
        }
        return best;
    }

    private World more(int h, int many) {
        World w = world.twin();
        w.homes.get(h).people += many;
        return w;
    }

    private int bring(int h, int n) {
        if (!house(h)) return -5;
        if (!span(n)) return -7;
        int fewest = -1;
        for (int many = 20; many >= 0; many--) if (show(more(h, many)).high[n][h] == 0) fewest = many;
        return fewest;
    }

    private int weight(int many, int n, int what) {
        if (!in(many, 0, 20) || !span(n) || !in(what, 0, 1)) return -2;
        int most = -1;
        int which = -1;
        for (int h = size() - 1; h >= 0; h--) {
            int down = show(more(h, many)).down(n);
            if (down >= most) {
                most = down;
                which = h;
            }
        }
        return what == 0 ? which : most;
    }

    private int over(int n, int what) {
        if (!span(n) || !in(what, 0, 1)) return -2;
        int now = show(world).down(n);
        int most = now;
        int way = -1;
        for (int from = 0; from < size(); from++) {
            if (world.homes.get(from).people < 1) continue;
            for (int to = 0; to < size(); to++) {
                if (to == from) continue;
                World w = more(to, 1);
                w.homes.get(from).people--;
                int down = show(w).down(n);
                if (down <= most) continue;
                most = down;
                way = 10 * from + to;
            }
        }
        return what == 0 ? way : most;
    }

    private int link(int n, int what) {
        if (!span(n) || !in(what, 0, 1)) return -2;
        int most = show(world).down(n);
        int pair = -1;
        for (int code = 0; code < 70; code++) {
            int a = code / 10;
            int b = code % 10;
            if (!house(a) || !house(b) || a >= b) continue;
            World w = world.twin();
            w.join(a, b);
            int down = show(w).down(n);
            if (down <= most) continue;
            most = down;
            pair = code;
        }
        return what == 0 ? pair : most;
    }

    private int frees(int h, int n, int what) {
        if (!house(h)) return -5;
        if (!span(n) || !in(what, 0, 1)) return -7;
        List<Integer> found = new ArrayList<>();
        if (show(world).high[n][h] > 0) {
            for (var c : world.chains.entrySet()) {
                World w = world.twin();
                w.loosen(c.getValue());
                if (show(w).high[n][h] == 0) found.add(10 * c.getKey() + c.getValue());
            }
        }
        if (what == 1) return found.size();
        return found.isEmpty() ? -1 : found.get(0);
    }

    private int hang(int h, int which, int what) {
        if (!house(h) || !house(which)) return -5;
        if (!in(what, 0, 1)) return -7;
        int[] by = {-1, -1};
        for (int high = 9; high >= 0; high--) {
            World w = world.twin();
            w.homes.get(which).high = high;
            int n = show(w).when(h);
            if (n >= 0 && (by[1] < 0 || n < by[1])) by = new int[] {high, n};
        }
        return by[what];
    }

    private int night(int n) {
        if (!span(n)) return -2;
        Shown s = show(world);
        for (int h = 0; h < size(); h++) world.homes.get(h).high = s.high[n][h];
        return s.down(n);
    }

    private int dawn(int far) {
        if (!in(far, 0, 9)) return -2;
        int together = 0;
        for (Home h : world.homes) {
            for (int i = 0; i < far && h.high < 9; i++) {
                h.high++;
                together++;
            }
        }
        return together;
    }

    private int telling(int s) {
        if (!in(s, 0, 3)) return -2;
        if (sheets[s] == null) return -11;
        return sheets[s].length == size() ? 0 : -2;
    }

    private int judge(int s, int n) {
        if (telling(s) < 0) return telling(s);
        return span(n) ? Arrays.mismatch(sheets[s], show(world).high[n]) : -7;
    }

    private int times(int s) {
        if (telling(s) < 0) return telling(s);
        int bits = 0;
        for (int n = 0; n <= 24; n++) if (judge(s, n) == -1) bits += 1 << n;
        return bits;
    }

    private int laws(int s, int n) {
        if (telling(s) < 0) return telling(s);
        if (!span(n)) return -7;
        int bits = 0;
        for (int t = 0; t < texts.size(); t++) {
            World w = world.twin();
            w.law = t;
            if (Arrays.equals(sheets[s], show(w).high[n])) bits += 1 << t;
        }
        return bits;
    }

    private int thief(int s, int n, int h) {
        if (telling(s) < 0) return telling(s);
        if (!house(h)) return -5;
        if (!span(n)) return -7;
        int bits = 0;
        for (int many = 0; many <= 20; many++) if (Arrays.equals(sheets[s], show(more(h, many)).high[n])) bits += 1 << many;
        return bits;
    }

    private int film(int s, int n) {
        if (!in(s, 0, 3)) return -2;
        if (!span(n)) return -7;
        sheets[s] = show(world).high[n].clone();
        sorts[s] = 2;
        return size();
    }

    private long odds(int[] a) {
        if (!in(a[0], 0, 99999) || !span(a[1]) || !in(a[2], 0, 100) || !in(a[3], 0, 1)) return NO;
        int above = 0;
        for (int i = 0; i < 20; i++) if (draw(a[0] + i, a[2]).down(a[1]) == size()) above++;
        int x = above;
        int y = 20;
        while (x != 0) {
            int rest = y % x;
            y = x;
            x = rest;
        }
        return a[3] == 0 ? above / y : 20 / y;
    }

    private int sheet(int s, int sort, int n) {
        if (!in(s, 0, 3) || !in(sort, -1, 2) || sort >= 0 && n > 40) return -2;
        if (sort >= 0 && n < 0) return -14;
        sheets[s] = sort < 0 ? null : new int[n];
        sorts[s] = sort;
        return 1;
    }

    private int cell(int s, int i, int v) {
        if (!in(s, 0, 3)) return -2;
        if (sheets[s] == null) return -11;
        if (!in(i, 0, sheets[s].length - 1)) return -12;
        sheets[s][i] = sorts[s] == 0 ? (byte) v : sorts[s] == 1 ? (short) v : v;
        return 1;
    }

    private int copy(int s, int i, int other, int j, int n) {
        if (!in(s, 0, 3) || !in(other, 0, 3)) return -2;
        if (sheets[s] == null || sheets[other] == null) return -11;
        if (sorts[s] != sorts[other]) return -13;
        if (i < 0 || j < 0 || n < 0 || (long) i + n > sheets[s].length || (long) j + n > sheets[other].length) return -12;
        int[] were = sheets[s].clone();
        for (int k = 0; k < n; k++) sheets[other][j + k] = were[i + k];
        return n;
    }

    private int housesBy(int s, int sort, int at, int n) {
        if (!in(s, 0, 3) || !in(sort, 0, 2) || !in(n, 0, 7)) return -2;
        if (sheets[s] == null) return -11;
        if (sorts[s] != sort) return -13;
        int before = size();
        for (long p = at; p < at + 3L * n; p += 3) {
            if (p < 0 || p + 2 >= sheets[s].length) return -12;
            build(sheets[s][(int) p], sheets[s][(int) p + 1], sheets[s][(int) p + 2]);
        }
        return size() - before;
    }

    private int taken(int i, int kind) {
        if (!in(kind, 0, 6)) return -2;
        if (!in(i, 0, 13)) return -12;
        if (!house(i % 7)) return -11;
        Home h = world.homes.get(i % 7);
        if (i >= 7) return h.people == 0 ? -11 : kind == 6 ? h.people : -13;
        String isA = List.of("0", "01", "02", "013", "024", "05").get(h.kind);
        return isA.contains("" + kind) ? i : -13;
    }
}
