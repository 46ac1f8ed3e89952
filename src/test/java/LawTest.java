/** Promises 2 to 6, and section 1's texts. */
public final class LawTest {
    public static void main(String[] args) {
        promise2();
        promise3();
        promise4();
        faults();
        depth();
        promise5();
        promise6();
        values();
        Check.end();
    }

    private static void promise2() {
        UpperFloors x = new UpperFloors();
        int[] atFirst = {0, 0, 0, 1, 0, 0};
        for (int what = 0; what < 6; what++) Check.due("count at first", x.count(what), atFirst[what]);
        Check.due("count(-1)", x.count(-1), -2);
        Check.due("count(6)", x.count(6), -2);
        for (int i = 0; i < 5; i++) x.house(i, 1, 1);
        x.chain(0, 3);
        x.chain(4, 1);
        x.set(0, 1, 20);
        x.set(4, 1, 3);
        Check.feed(x, "weighs 1;holds 1;hits 1;");
        x.text();
        x.force(1);
        Check.feed(x, "abc");
        int[] later = {5, 2, 23, 2, 1, 3};
        for (int what = 0; what < 6; what++) Check.due("count later", x.count(what), later[what]);
    }

    private static void promise3() {
        UpperFloors x = new UpperFloors();
        Check.due("feed 0", x.feed(0, 1, 1, 1, 1, 1), -2);
        Check.due("feed 6", x.feed(6, 1, 1, 1, 1, 1), -2);
        for (int i = 0; i < 5; i++) {
            for (int wrong : new int[] {-1, 256, Integer.MIN_VALUE, Integer.MAX_VALUE}) {
                int[] b = {0, 255, 0, 255, 0};
                b[i] = wrong;
                Check.due("feed of " + wrong, x.feed(1, b[0], b[1], b[2], b[3], b[4]), -2);
            }
        }
        Check.due("nothing came", x.count(5), 0);
        int size = 0;
        for (int n = 1; n <= 5; n++) {
            size += n;
            Check.due("feed " + n, x.feed(n, 0, 255, 0, 255, 0), size);
        }
        for (int i = 0; i < 28; i++) x.feed(5, 32, 32, 32, 32, 32);
        Check.due("155", x.count(5), 155);
        Check.due("to 158", x.feed(3, 32, 32, 32, 32, 32), 158);
        Check.due("3 have no room", x.feed(3, 32, 32, 32, 32, 32), -4);
        Check.due("bad ahead of full", x.feed(3, 32, 32, 32, 32, 256), -2);
        Check.due("none came", x.count(5), 158);
        Check.due("2 have room", x.feed(2, 32, 32, 32, 32, 32), 160);
        Check.due("1 has none", x.feed(1, 32, 32, 32, 32, 32), -4);
        order();
    }

    private static void order() {
        UpperFloors x = new UpperFloors();
        Check.feed(x, "weighs 12345");
        Check.due("they come one by one", x.text(), -107);
        x.house(0, 1, 0);
        Check.feed(x, "weigh");
        x.feed(5, 's', ' ', '1', '2', '3');
        x.feed(2, ';', 'h', '!', '!', '!');
        Check.feed(x, "olds 45;hits 6;");
        Check.due("text", x.text(), 1);
        x.force(1);
        Check.due("weighs", x.asks(0, 0, 0), 123);
        Check.due("holds", x.asks(1, 0, 0), 45);
        Check.due("hits", x.asks(2, 0, 0), 6);
    }

    private static void promise4() {
        UpperFloors x = new UpperFloors();
        Check.due("empty tape", x.text(), -100);
        String good = "weighs 1;holds 1;hits 1;";
        for (int i = 1; i < 6; i++) {
            Check.due("fault", Check.text(x, "weighs 1;holds 1;hits 1"), -123);
            Check.due("the tape is empty", x.count(5), 0);
            Check.due("text", Check.text(x, good), i);
            Check.due("the tape is empty", x.count(5), 0);
            Check.due("texts", x.count(3), i + 1);
        }
        Check.feed(x, "!");
        Check.due("full ahead of the fault", x.text(), -4);
        Check.due("the tape stays", x.count(5), 1);
        Check.due("texts", x.count(3), 6);
        Check.due("the law stays", x.count(4), 0);
        StringBuilder wide = new StringBuilder(good);
        while (wide.length() < 160) wide.append(wide.length() % 2 == 0 ? ' ' : '\n');
        Check.due("160 bytes", Check.text(new UpperFloors(), wide.toString()), 1);
        StringBuilder full = new StringBuilder("weighs 1;holds 1;hits 0");
        while (full.length() < 157) full.append("+1");
        full.append("+1;");
        Check.due("160 bytes, all used", full.length(), 160);
        UpperFloors y = Check.under(full.toString());
        y.house(0, 0, 0);
        Check.due("its sum", y.asks(2, 0, 0), 68);
    }

    private static void fault(String text, int place) {
        Check.due("fault of '" + text + "'", Check.text(new UpperFloors(), text), -100 - place);
    }

    /** A fault in an E that stands behind "weighs " (7 bytes). */
    private static void inside(String e, int place) {
        fault("weighs " + e + ";holds 1;hits 1;", 7 + place);
    }

    private static void faults() {
        fault("   ", 3);
        fault("\n\n", 2);
        fault("\t", 0);
        fault("weighs", 6);
        fault("weigh 1;", 0);
        fault("weighss 1;", 0);
        fault("holds 1;", 0);
        fault("  hits", 2);
        fault("weighs 1 ; hits 1;", 11);
        fault("weighs 1;holds 1;hits 1;;", 24);
        fault("weighs 1;holds 1;hits 1; weighs 1;", 25);
        fault("weighs 1;holds 1;hits 1; 5", 25);
        fault("weighs 1;holds 1;hits 1; \u00e9", 25);
        fault("weighs 1;holds 1;hits ", 22);
        fault("weighs 1  ", 10);
        fault("weighs ;", 7);
        fault("weighs 1 2;", 9);
        fault("weighs told people;", 12);
        fault("weighs Told;", 7);
        fault("weighs 1 or;", 11);
        fault("weighs 1<2<3;", 10);
        fault("weighs 1<2=3;", 10);
        fault("weighs 1=2<3;", 10);
        fault("weighs (1;", 9);
        fault("weighs (1", 9);
        fault("weighs 1);", 8);
        fault("weighs ();", 8);
        inside("12345", 0);
        inside("1 + 00001", 4);
        inside("1 , 2", 2);
        inside("1 > 2", 2);
        inside("1 / 2", 2);
        inside("+ 1", 0);
        inside("1 + not 2", 4);
        inside("1 < not 2", 4);
        inside("- not 2", 2);
        inside("1 - ", 4);
        inside("told tolds", 5);
        inside("toldpeople", 0);
        inside("weighs", 0);
        inside("1 hits", 2);
        inside("1 and or 2", 6);
        inside("not", 3);
        inside("1 not 2", 2);
        inside("* 2", 0);
        inside("1 * * 2", 4);
        inside("12ab", 2);
        inside("\u00ff", 0);
        inside("a", 0);
        inside("z", 0);
        inside("`", 0);
        inside("{", 0);
        inside("1:2", 1);
        inside("1 <", 3);
        inside("1 =", 3);
        inside("1 *", 3);
        inside("1 +", 3);
        inside("1 or", 4);
        inside("1 and", 5);
        inside("-", 1);
        fault("weighs tol", 7);
        fault("weighs told", 11);
        inside("1.2", 1);
    }

    private static void depth() {
        String[] fine = {"(((((1)))))", "- - - - - 1", "-----1", "not not not not not 1", "(-(-(1)))", "not (not (- 1))",
            "(((((1))))) + (((((1)))))", "- - - - - 1 * - - - - - 1", "not not not not not 1 and not not not not not 1",
            "not not not not not 1 < 2 or (1)", "((((-1 + -1 * (1) - (1 - 1)))))", "1 - - - - - - 1"};
        for (String e : fine) {
            Check.due("deep '" + e + "'", Check.text(new UpperFloors(), "weighs " + e + ";holds 1;hits 1;"), 1);
        }
        inside("((((((1))))))", 5);
        inside("------1", 5);
        inside("1 - - - - - - - 1", 14);
        inside("not not not not not not 1", 20);
        inside("not(not(not(1)))", "not(not(not".length());
        inside("not not not not not (1)", 20);
        inside("not not not not not -1", 20);
        inside("not not not not not 1 < -1", 24);
        inside("not not not not not 1 < 2 and (((((1))))) or ((((((1", 50);
        inside("(((((not 1)))))", 5);
        inside("(((((-1)))))", 5);
        inside("-----(1)", 5);
        inside("(((((1 - 1 - -1)))))", 13);
        fault("weighs ((((((", 12);
    }

    private static void promise5() {
        UpperFloors x = new UpperFloors();
        Check.due("force(1)", x.force(1), -2);
        Check.due("force(-1)", x.force(-1), -2);
        Check.due("force(0)", x.force(0), 0);
        Check.text(x, "weighs 3;holds 4;hits 5;");
        Check.text(x, "weighs 6;holds 7;hits 8;");
        x.house(0, 50, 0);
        Check.due("force(2)", x.force(2), 0);
        Check.due("law", x.count(4), 2);
        Check.due("its words", x.asks(0, 0, 0), 6);
        Check.due("force(1)", x.force(1), 2);
        Check.due("its words", x.asks(1, 0, 0), 4);
        Check.due("force(3)", x.force(3), -2);
        Check.due("law", x.count(4), 1);
        Check.due("force(0)", x.force(0), 1);
        Check.due("its words", x.asks(0, 0, 0), 50);
    }

    private static void promise6() {
        UpperFloors x = new UpperFloors();
        Check.due("no house", x.asks(0, 0, 0), -5);
        Check.due("no house ahead of part", x.asks(9, 0, 99), -5);
        x.house(1, 30, 9);
        x.house(2, 99, 9);
        x.set(1, 1, 20);
        Check.due("weighs", x.asks(0, 0, 0), 30);
        Check.due("weighs", x.asks(0, 1, 24), 199);
        Check.due("holds, the text alone", x.asks(1, 1, 0), 2);
        Check.due("hits at speed 0", x.asks(2, 1, 0), 0);
        Check.due("house -1", x.asks(0, -1, 0), -5);
        Check.due("house 2", x.asks(0, 2, 0), -5);
        Check.due("part -1", x.asks(-1, 0, 0), -7);
        Check.due("part 3", x.asks(3, 0, 0), -7);
        Check.due("minute -1", x.asks(0, 0, -1), -7);
        Check.due("minute 25", x.asks(0, 0, 25), -7);
        UpperFloors y = Check.under("weighs minute;holds high;hits speed+1;");
        y.house(4, 0, 0);
        y.set(0, 0, 6);
        for (int minute = 0; minute <= 24; minute++) Check.due("minute", y.asks(0, 0, minute), minute);
        Check.due("high", y.asks(1, 0, 3), 6);
        Check.due("speed", y.asks(2, 0, 3), 1);
    }

    private static void values() {
        String[] names = {"told", "people", "more", "high", "minute", "speed"};
        int[] of = {7, 2, 3, 5, 11, 0};
        for (int i = 0; i < names.length; i++) Check.due(names[i], Check.value(names[i]), of[i]);
        Check.due("999", Check.value("999"), 999);
        Check.due("1000", Check.value("1000"), 999);
        Check.due("9999", Check.value("9999"), 999);
        Check.due("0007", Check.value("0007"), 7);
        Check.due("below 0", Check.value("-1"), 0);
        Check.due("holds 99", Check.value("holds", "99"), 99);
        Check.due("holds 100", Check.value("holds", "100"), 99);
        Check.due("holds -5", Check.value("holds", "0-5"), 0);
        Check.due("hits 99", Check.value("hits", "99"), 99);
        Check.due("hits 100", Check.value("hits", "100"), 99);
        Check.due("hits -5", Check.value("hits", "0-5"), 0);
        String[] e = {"1+2*3", "(1+2)*3", "9-4-3", "9-(4-3)", "2*3*4", "-2*-3", "10 - - 3", "1<2", "2<1", "2<2", "2=2", "2=3",
            "-1<0", "5 or 0", "0 or 0", "5 and 6", "5 and 0", "not 5", "not 0", "not not 7", "not 1 < 2", "not 2 < 1",
            "1 or 1 and 0", "(1 or 1) and 0", "0 and 0 or 1", "not 0 and 0", "not (0 and 0)", "1+1<3", "3<1+1", "1+(1<3)",
            "5", "(5)", "5and 3", "5or 0", "told<people", "2=1+1", "(2=2)+5", "0 or -1", "-1 and -1",
            "0or0or 3", "1 and 1 and 0", "high=5 and more=3 and told=7 or speed", "3-2+1", "2+3*4-5*2"};
        int[] v = {7, 9, 2, 8, 24, 6, 13, 1, 0, 0, 1, 0,
            1, 1, 0, 1, 0, 0, 1, 1, 0, 1,
            1, 0, 1, 0, 1, 1, 0, 2,
            5, 5, 1, 1, 0, 1, 6, 1, 1,
            1, 0, 1, 2, 4};
        for (int i = 0; i < e.length; i++) Check.due(e[i], Check.value(e[i]), v[i]);
        String[] truths = {"0 or 0", "1 and 0", "0 and 1", "2<1", "1<1", "1=2", "not 1"};
        for (String none : truths) Check.due("5 and none", Check.value("5+(" + none + ")"), 5);
        for (String one : new String[] {"3 or 0", "0 or 3", "3 and 4", "1<2", "4=4", "not 0"}) {
            Check.due("5 and one", Check.value("5+(" + one + ")"), 6);
        }
        wrapping();
        anew();
    }

    /** Nothing of a text at fault is in the one that comes to its number. */
    private static void anew() {
        UpperFloors x = new UpperFloors();
        x.house(0, 50, 0);
        Check.text(x, "weighs 1+2+3+4+5;holds told*told;hits 7 or 8 or 9;!");
        Check.due("the next one", Check.text(x, "weighs 2;holds 4;hits 6;"), 1);
        x.force(1);
        for (int part = 0; part < 3; part++) Check.due("its words alone", x.asks(part, 0, 0), 2 * part + 2);
    }

    private static void wrapping() {
        // 9999 * 9999 * 43 is 4299140043: 32 bits leave 4172747.
        Check.due("wraps", Check.value("9999*9999*43 = 4172*1000+747"), 1);
        // 9999 * 9999 * 22 is 2199560022: 32 bits leave -2095407274.
        Check.due("wraps below 0", Check.value("9999*9999*22 < 0"), 1);
        Check.due("wraps, then a bound", Check.value("9999*9999*22"), 0);
        Check.due("sum wraps", Check.value("9999*9999*21+9999*9999 < 0"), 1);
        Check.due("difference wraps", Check.value("0-9999*9999*21-9999*9999 < 0"), 0);
        Check.due("least, turned", Check.value("-(8192*8192*32) < 0 and 8192*8192*32 < 0"), 1);
        Check.due("2 to the 32nd", Check.value("not 8192*8192*64"), 1);
    }
}
