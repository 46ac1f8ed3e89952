/** Section 1 of the Terms: each sentence on TOKENS, TEXTS, their FAULTS and their numbers that names an edge. */
public final class TextEdgeTest {
    private static final String REST = "holds 2;hits 3;";

    public static void main(String[] args) {
        tape();
        tokensAsLongAsCanBe();
        digits();
        everyByte();
        blanks();
        parts();
        repeated();
        oneComparison();
        wraps();
        truths();
        endsTooEarly();
        firstFault();
        fiveOpen();
        openTillItEnds();
        sixTexts();
        afterFaults();
        afterEachFault();
        firstLaw();
        bounds();
        names();
        Check.end();
    }

    private static void fine(String text) {
        Check.due("'" + text + "'", Check.text(new UpperFloors(), text), 1);
    }

    private static void fault(String text, int place) {
        Check.due("'" + text + "'", Check.text(new UpperFloors(), text), -100 - place);
    }

    /** A fault in what stands behind "weighs ". */
    private static void inside(String e, int place) {
        fault("weighs " + e + ";" + REST, 7 + place);
    }

    private static void inside(String e) {
        fine("weighs " + e + ";" + REST);
    }

    private static String times(int many, String part) {
        return part.repeat(many);
    }

    /** "THE TAPE (160 bytes at most)": none, 1, 159, 160 of them are read. */
    private static void tape() {
        String text = "weighs 1;" + REST;
        fault("", 0);
        fault(" ", 1);
        fault("w", 0);
        fine(text + times(159 - text.length(), " "));
        fine(text + times(160 - text.length(), "\n"));
        fine(times(160 - text.length(), " ") + text);
        fault(times(160, " "), 160);
        fault(times(159, "\n") + "!", 159);
        fault(text + times(159 - text.length(), " ") + "1", 159);
        String full = "weighs 0" + times(66, "+1") + ";holds 0;hits 1;;";
        fault(full.replace(";;", "; !"), full.length());
        UpperFloors x = Check.under(full.replace(";;", ";").replace("holds 0", "holds 01"));
        x.house(0, 0, 0);
        Check.due("its last E", x.asks(2, 0, 0), 1);
        Check.due("its first E", x.asks(0, 0, 0), 66);
    }

    /** "TOKENS, each as long as can be". */
    private static void tokensAsLongAsCanBe() {
        fine("weighs1;holds2;hits3;");
        fine("weighs(1);holds(2);hits-3;");
        inside("not1");
        inside("not not1");
        inside("1or 2and 3");
        inside("1or not 2");
        inside("notnot 1", 0);
        inside("nottold", 0);
        inside("toldor 1", 0);
        inside("1 ortold", 2);
        inside("told2", 4);
        inside("2told", 1);
        inside("2 3", 2);
        inside("to ld", 0);
        inside("tol", 0);
        inside("tolds", 0);
        inside("1 o r 2", 2);
        fault("weigh s 1;" + REST, 0);
        fault("weighsholds", 0);
        fault("weighstold;" + REST, 0);
    }

    /** "NUMBERS (as many digits as stand there; more than 4 are too long)". */
    private static void digits() {
        for (String number : new String[] {"0", "9", "10", "99", "100", "999", "0000", "0001", "9999"}) inside(number);
        for (String number : new String[] {"00000", "00001", "10000", "99999", "000000", "4294967296", times(100, "1")}) {
            inside(number, 0);
            inside("1 + " + number, 4);
        }
        Check.due("4 digits", Check.value("9999 - 9998"), 1);
        Check.due("0s ahead", Check.value("0012"), 12);
        Check.due("0 alone", Check.value("0"), 0);
        Check.due("0s alone", Check.value("0000"), 0);
    }

    /** "SIGNS ( ) ; + - * < =", letters a .. z, digits, blanks 32 and 10; each other byte begins no TOKEN. */
    private static void everyByte() {
        for (int b = 0; b < 256; b++) {
            char c = (char) b;
            boolean blank = b == 32 || b == 10;
            boolean letter = b >= 97 && b <= 122;
            String text = "weighs told;" + REST;
            if (blank) {
                fine(c + text);
                fine(text + c);
                fine("weighs told" + c + ";" + REST);
                fine("weighs" + c + "told;" + REST);
            } else {
                // A letter makes a longer WORD, which is none; each other byte is a TOKEN that can't stand there, or none.
                fault(c + text, 0);
                fault(text + c, text.length());
                int place = letter ? 7 : ";+-*<=".indexOf(c) >= 0 ? 12 : 11;
                fault("weighs told" + c + ";" + REST, place);
                fault("weighs !" + c, 7);
            }
        }
    }

    /** "blanks (32, 10) may stand between": none, one, many, at either end; not within a TOKEN. */
    private static void blanks() {
        fine("weighs(told)*2<3;holds-1;hits not(0);");
        fine(" \n weighs \n ( told ) * 2 < 3\n;\nholds \n- 1 ; hits not\n( 0 ) ; \n\n");
        inside("12 34", 3);
        inside("n ot 1", 0);
        inside("1 \t+ 1", 2);
        inside("1\r+ 1", 1);
        Check.due("blanks change nothing", Check.value(" \n1\n + \n2 * 3 \n"), 7);
    }

    /** "TEXT: weighs E ; holds E ; hits E ;": these, in this order, each once. */
    private static void parts() {
        fault("holds 1;weighs 1;hits 1;", 0);
        fault("hits 1;holds 1;weighs 1;", 0);
        fault("weighs 1;weighs 1;hits 1;", 9);
        fault("weighs 1;hits 1;holds 1;", 9);
        fault("weighs 1;holds 1;holds 1;", 17);
        fault("weighs 1;holds 1;hits 1;hits 1;", 24);
        fault("weighs 1;holds 1;hits 1;;", 24);
        fault("weighs 1;holds 1;hits 1;0", 24);
        // No TOKEN can stand behind the last ; , of whatever sort it is, nor what is none.
        String[] behind = {"1", "9999", "12345", "told", "tolds", "weighs", "holds", "hits", "or", "and", "not", "(", ")", ";", "+", "-",
            "*", "<", "=", "!"};
        for (String token : behind) {
            fault("weighs 1;holds 1;hits 1;" + token, 24);
            fault("weighs 1;holds 1;hits 1; " + token + " ", 25);
        }
        fault("weighs 1;;holds 1;hits 1;", 9);
        fault("weighs 1 holds 1;hits 1;", 9);
        fault("weighs;holds 1;hits 1;", 6);
        fault("weighs 1;holds;hits 1;", 14);
        fault("weighs 1;holds 1;hits;", 21);
        fault(";weighs 1;holds 1;hits 1;", 0);
        fault("1;2;3;", 0);
        fault("told;", 0);
        // The KEYS are no NAMES.
        for (String key : new String[] {"weighs", "holds", "hits", "or", "and"}) {
            inside(key, 0);
            inside("1 + " + key, 4);
            inside("told " + ("or and".contains(key) ? key + " " + key : key), "or and".contains(key) ? 6 + key.length() : 5);
        }
        for (String name : new String[] {"told", "people", "more", "high", "minute", "speed"}) {
            fault(name + " 1;", 0);
            inside(name);
            inside("1 " + name, 2);
        }
    }

    /** "AND { or AND }", "NOT { and NOT }", "TERM { + or - TERM }", "ONE { * ONE }": none of them, one, many. */
    private static void repeated() {
        for (String sign : new String[] {"or", "and", "+", "-", "*"}) {
            String e = "1";
            for (int many = 0; many <= 20; many++, e += " " + sign + " 1") {
                int due = "or and *".contains(sign) ? 1 : sign.equals("+") ? 1 + many : Math.max(0, 1 - many);
                Check.due(many + " of " + sign, Check.value(e), due);
            }
            inside("1 " + sign, 3 + sign.length() - 1);
            if (!sign.equals("-")) inside(sign + " 1", 0);
            if (!sign.equals("-")) inside("1 " + sign + " " + sign + " 1", 3 + sign.length());
        }
        Check.due("from the left", Check.value("9 - 4 - 3"), 2);
        Check.due("- of a - of a ONE", Check.value("9 - - 4"), 13);
    }

    /** "SUM, perhaps < or = and a SUM": none, one, no second one but in ( ). */
    private static void oneComparison() {
        for (String first : new String[] {"<", "="}) {
            inside("1" + first + "2");
            for (String second : new String[] {"<", "="}) {
                inside("1" + first + "2" + second + "3", 3);
                inside("(1" + first + "2)" + second + "3");
                inside("1" + first + "(2" + second + "3)");
                inside("1" + first + second + "2", 2);
                inside("1" + first + "2 and 3" + second + "4");
                inside("not 1" + first + "2 or not 3" + second + "4");
            }
            inside(first + "1", 0);
            inside("1" + first, 2);
            inside("1" + first + "not 1", 2);
            inside("1" + first + "(not 1)");
        }
        Check.due("not of a comparison", Check.value("not 0 = 1"), 1);
        Check.due("a comparison of a not", Check.value("(not 0) = 1"), 1);
        Check.due("not binds less", Check.value("not 1 = 0"), 1);
        Check.due("less, like, more", Check.value("(1<2)*100 + (2<2)*10 + (3<2)"), 100);
        Check.due("less, like, more", Check.value("(1=2)*100 + (2=2)*10 + (3=2)"), 10);
    }

    /** "An E is an int (32 bits, wrapping)": the greatest int is 8192 * 8192 * 32 - 1. */
    private static void wraps() {
        String least = "8192*8192*32";
        String greatest = "(8192*8192*32 - 1)";
        Check.due("the greatest is above 0", Check.value("0 < " + greatest), 1);
        Check.due("1 more is the least", Check.value(greatest + " + 1 < 0"), 1);
        Check.due("1 more is the least", Check.value(greatest + " + 1 = " + least), 1);
        Check.due("1 less is the greatest", Check.value(least + " - 1 = " + greatest), 1);
        Check.due("1 less is above 0", Check.value("0 < " + least + " - 1"), 1);
        Check.due("the least, turned, is the least", Check.value("-(" + least + ") = " + least), 1);
        Check.due("the least is below 0", Check.value(least + " < 0"), 1);
        Check.due("twice it is 0", Check.value(least + "*2 = 0"), 1);
        Check.due("twice it is not true", Check.value("not " + least + "*2"), 1);
        Check.due("twice the greatest", Check.value(greatest + "*2 = -2"), 1);
        Check.due("it compares as an int", Check.value(least + " < " + greatest), 1);
        Check.due("no difference is taken to compare", Check.value(greatest + " < " + least), 0);
        Check.due("no difference is taken to compare", Check.value("1 < " + least), 0);
        Check.due("the greatest, then the bound", Check.value(greatest), 999);
        Check.due("the least, then the bound", Check.value(least), 0);
        Check.due("the greatest, then the bound", Check.value("holds", greatest), 99);
        Check.due("the greatest, then the bound", Check.value("hits", greatest), 99);
    }

    /** "of or, and, not, <, = 1 or 0 (what is not 0 is true)". */
    private static void truths() {
        int[] values = {-2, -1, 0, 1, 2};
        for (int a : values) {
            String left = "(0+" + a + ")".replace("+-", "-");
            Check.due("not " + a, Check.value("5 + (not " + a + ")"), a == 0 ? 6 : 5);
            for (int b : values) {
                Check.due(a + " or " + b, Check.value("5 + (" + a + " or " + b + ")"), a != 0 || b != 0 ? 6 : 5);
                Check.due(a + " and " + b, Check.value("5 + (" + a + " and " + b + ")"), a != 0 && b != 0 ? 6 : 5);
                Check.due(a + " < " + b, Check.value("5 + (" + a + " < " + b + ")"), a < b ? 6 : 5);
                Check.due(a + " = " + b, Check.value("5 + (" + a + " = " + b + ")"), a == b ? 6 : 5);
            }
        }
        // Where no such sign stands, an E is what it is, not 1.
        Check.due("a NUMBER", Check.value("7"), 7);
        Check.due("in ( )", Check.value("((7))"), 7);
        Check.due("not not", Check.value("not not 7"), 1);
        Check.due("8192*8192*32 is true", Check.value("8192*8192*32 and 1"), 1);
    }

    /** "FAULT: ... (the text's size, if it ends too early)": behind each TOKEN of a text, with blanks behind it, too. */
    private static void endsTooEarly() {
        String text = "weighs - told * ( 1 + 2 ) < 3 and not 4 or 5 ; holds 2 ; hits 3 ;";
        int at = 0;
        while (at >= 0) {
            String cut = text.substring(0, at);
            // What ends behind "weighs .. 3 ;" lacks the next KEY, what ends ahead of the first one all.
            fault(cut, cut.length());
            fault(cut + " \n", cut.length() + 2);
            at = text.indexOf(' ', at + 1);
        }
        fine(text);
        fault(times(160, " "), 160);
        String deep = "weighs " + times(76, "1+");
        fault(deep + "1", deep.length() + 1);
        String wide = "weighs 1" + times(151, " ");
        fault(wide + " ", 160);
    }

    /** "the first byte of the first TOKEN that can't stand there": of two faults the first one, by its first byte. */
    private static void firstFault() {
        inside("1 2 !", 2);
        inside("! 2 3", 0);
        inside("12345 !", 0);
        inside("1 12345 !", 2);
        inside("told people !", 5);
        inside("abc !", 0);
        inside("1 ! abc", 2);
        inside("((((((1", 5);
        inside("1 ) ((((((1", 2);
        inside(") 12345", 0);
        inside("1 + + !", 4);
        // A TOKEN that can't stand there, for whatever it is besides.
        inside("1 not 2", 2);
        inside("1 ( 2", 2);
        inside("1 told", 2);
        inside("( ) 1", 2);
        inside("(1 ; 2)", 3);
        inside("1 or or 2", 5);
        fault("weighs 1;!olds 1;hits 1;", 9);
        fault("weighs 1;holds 1;hits 1;!", 24);
        fault("Weighs 1;holds 1;hits 1;", 0);
        fault("weighs 1,holds 1;hits 1;", 8);
    }

    /** "a ( , a not, a - ahead of a ONE while 5 of these are open": 5 are taken, the 6th is the fault, of each mix. */
    private static void fiveOpen() {
        String[] parts = {"(", "not ", "-"};
        for (int mix = 0; mix < 243; mix++) {
            StringBuilder e = new StringBuilder();
            int closes = 0;
            boolean minus = false;
            boolean stands = true;
            for (int i = 0, rest = mix; i < 5; i++, rest /= 3) {
                String part = parts[rest % 3];
                // not can't stand behind a -, but in a ( .
                if (part.equals("not ") && minus) stands = false;
                minus = part.equals("-");
                if (part.equals("(")) closes++;
                e.append(part);
            }
            if (!stands) continue;
            String five = e.toString();
            inside(five + "1" + times(closes, ")"));
            inside(five + "told" + times(closes, ")") + " + 1");
            for (String part : parts) inside(five + part + "1" + times(closes, ")"), five.length());
            // A - ends with its ONE, a ( and a not go on.
            if (!minus) for (String part : new String[] {"(", "-"}) inside(five + "1+" + part + "1", five.length() + 2);
        }
        // A - between two TERMS is none of them.
        inside("(((((1 - 2 - 3)))))");
        inside("-----1 - 1 - -1");
        inside("(((((1 - -2)))))", 9);
    }

    /** "(a ( till its ), not and - till what they belong to ends)". */
    private static void openTillItEnds() {
        inside("(((((1))))) + (((((2))))) * (((((3)))))");
        inside("((((1) + (2)) * (3)) < (4))");
        inside("((((((1)", 5);
        inside("((((1) + ((2)", 13);
        inside("((((1) + (((2)", 11);
        inside("-----1 * -----2 - -----3");
        inside("--(--1)");
        inside("--(--1) + --(--1) * -----1");
        inside("---(--1)", 5);
        inside("not not not not not 1 and not not not not not 2 or not not not not not 3");
        inside("not not (not not 1 < 2 and not not 3 or 4)");
        inside("not 1 < ((((2))))");
        inside("not 1 < (((((2)))))", 12);
        inside("not ((((1)))) < ((((2)))) and (((((3)))))");
        inside("not ((((1)))) < ((((2)))) and ((((((3))))))", 35);
        inside("-((((1)))) * (((((2)))))");
        inside("-((((1)))) - -((((2))))");
        inside("-(((((1)))))", 5);
        inside("not -(((1))) + ((((2))))");
        inside("not -(((1))) + (((((2)))))", 19);
        inside("(- 1 + (((( 2 )))))");
        inside("(- (((( 1", 6);
        // The parts of a text open nothing in one another.
        fine("weighs (((((1)))));holds -----1;hits not not not not not 1;");
        fault("weighs (((((1)))));holds ------1;hits 1;", 30);
    }

    /** "TEXTS are numbered from 0 on, 6 at most". */
    private static void sixTexts() {
        UpperFloors x = new UpperFloors();
        x.house(0, 42, 0);
        Check.due("one at first", x.count(3), 1);
        for (int t = 1; t <= 5; t++) {
            Check.due("no text yet", x.force(t), -2);
            Check.due("a text", Check.text(x, "weighs " + t + ";holds 1" + t + ";hits 2" + t + ";"), t);
        }
        Check.due("six", x.count(3), 6);
        Check.feed(x, "weighs 6;" + REST);
        Check.due("no seventh", x.text(), -4);
        Check.due("six", x.count(3), 6);
        Check.due("no text", x.force(6), -2);
        for (int t = 5; t >= 1; t--) {
            x.force(t);
            Check.due("weighs", x.asks(0, 0, 0), t);
            Check.due("holds", x.asks(1, 0, 0), 10 + t);
            Check.due("hits", x.asks(2, 0, 0), 20 + t);
        }
        x.force(0);
        Check.due("the first one", x.asks(0, 0, 0), 42);
    }

    /** A text behind faults is no other than one behind none, also of as many steps as a tape can tell. */
    private static void afterFaults() {
        String sum = "0" + times(60, "+1");
        UpperFloors x = new UpperFloors();
        x.house(0, 0, 0);
        for (int t = 1; t <= 5; t++) {
            for (int i = 0; i < 2; i++) fault(x, "weighs " + sum + ";holds 1;hits 9;!", 7 + sum.length() + 16);
            Check.due("a text", Check.text(x, "weighs " + sum + ";holds " + t + ";hits 1" + t + ";"), t);
            x.force(t);
            Check.due("weighs", x.asks(0, 0, 0), 60);
            Check.due("holds", x.asks(1, 0, 0), t);
            Check.due("hits", x.asks(2, 0, 0), 10 + t);
        }
    }

    /** Whatever steps a fault had, of signs and of numbers, none of them is in the text that is read next. */
    private static void afterEachFault() {
        String[] faults = {"weighs 1+2*3;!", "weighs 1*2+3;!", "weighs -1*-2;!", "weighs not 1 and not 2;!", "weighs 1+(2+(3+4));!",
            "weighs told;holds more*2+high;hits 1 or 0 or 1", "weighs 1<2 and 3=4;holds - - 1", "weighs 9;holds 9;hits 9*9-9+9;;"};
        for (String fault : faults) {
            for (String weighs : new String[] {"2", "1+1", "- - 2", "told-48", "not 0+(1=1)+1"}) {
                UpperFloors x = new UpperFloors();
                x.house(0, 50, 0);
                Check.holds("a fault", Check.text(x, fault) <= -100);
                Check.due("a text", Check.text(x, "weighs " + weighs + ";holds 4;hits 6;"), 1);
                x.force(1);
                Check.due("weighs", x.asks(0, 0, 0), weighs.startsWith("not") ? 0 : 2);
                Check.due("holds", x.asks(1, 0, 0), 4);
                Check.due("hits", x.asks(2, 0, 0), 6);
            }
        }
    }

    private static void fault(UpperFloors x, String text, int place) {
        Check.due("'" + text + "'", Check.text(x, text), -100 - place);
    }

    /** "TEXT 0, at first, and THE LAW: weighs told + people * 5 ; holds 2 ; hits speed * people ;". */
    private static void firstLaw() {
        UpperFloors x = new UpperFloors();
        Check.due("the law", x.count(4), 0);
        x.house(0, 0, 0);
        x.house(0, 99, 9);
        x.set(1, 1, 20);
        int[] minutes = {0, 24};
        for (int minute : minutes) {
            Check.due("the least", x.asks(0, 0, minute), 0);
            Check.due("the greatest", x.asks(0, 1, minute), 99 + 20 * 5);
            for (int h = 0; h < 2; h++) {
                Check.due("holds", x.asks(1, h, minute), 2);
                Check.due("hits", x.asks(2, h, minute), 0);
            }
        }
        Check.due("9 * 20 is more than a hit may cost", x.of(24, 1, 3), 99);
        x.set(1, 1, 11);
        Check.due("9 * 11 is not", x.of(24, 1, 3), 99);
        x.set(1, 1, 10);
        Check.due("9 * 10", x.of(24, 1, 3), 90);
        x.set(1, 0, 1);
        Check.due("1 * 10", x.of(24, 1, 3), 10);
        x.set(1, 1, 0);
        Check.due("1 * 0", x.of(24, 1, 3), 0);
    }

    /** "(weighs 0 .. 999, holds, hits 0 .. 99, else the bound)". */
    private static void bounds() {
        int[] values = {-9999, -1, 0, 1, 98, 99, 100, 101, 998, 999, 1000, 1001, 9999};
        for (int v : values) {
            String e = v < 0 ? "0-" + -v : "" + v;
            Check.due("weighs " + e, Check.value("weighs", e), Math.max(0, Math.min(999, v)));
            Check.due("holds " + e, Check.value("holds", e), Math.max(0, Math.min(99, v)));
            Check.due("hits " + e, Check.value("hits", e), Math.max(0, Math.min(99, v)));
        }
        // A bound is of the whole E, not of what stands within it.
        Check.due("1000 - 1 is no bound's", Check.value("1001 - 2"), 999);
        Check.due("9999 - 9000", Check.value("9999 - 9000"), 999);
        Check.due("5000 - 4500", Check.value("5000 - 4500"), 500);
        Check.due("-5 + 9", Check.value("-5 + 9"), 4);
        Check.due("in hits by a dusk, too", hit("1000"), 99);
        Check.due("in hits by a dusk, too", hit("0 - 1000"), 0);
        Check.due("two hits may cost more", twoHits(), 198);
    }

    private static int hit(String e) {
        UpperFloors x = Check.under("weighs 1;holds 0;hits " + e + ";");
        x.house(0, 0, 0);
        return x.of(24, 0, 3);
    }

    private static int twoHits() {
        UpperFloors x = Check.under("weighs 1;holds 0;hits 99;");
        x.house(0, 0, 0);
        x.house(0, 0, 0);
        return x.all(24, 1);
    }

    /** "told: TOLD; people: PEOPLE; more: MORE; high: how HIGH its floor is by then; minute; speed: 0". */
    private static void names() {
        UpperFloors x = Check.under("weighs told + people * 100;holds more + high * 10;hits minute + speed * 50;");
        int[][] ends = {{0, 0, 0, 0, 0}, {99, 9, 9, 9, 24}, {99, 0, 0, 9, 1}, {0, 9, 9, 0, 23}};
        for (int h = 0; h < ends.length; h++) {
            int[] e = ends[h];
            x.house(0, e[0], e[2]);
            x.set(h, 1, e[1]);
            x.set(h, 0, e[3]);
            Check.due("told, people", x.asks(0, h, e[4]), e[0] + e[1] * 100);
            Check.due("more, high", x.asks(1, h, e[4]), Math.min(99, e[2] + e[3] * 10));
            Check.due("minute, speed", x.asks(2, h, e[4]), e[4]);
        }
        UpperFloors y = Check.under("weighs people;holds 0;hits 0;");
        y.house(0, 0, 0);
        y.set(0, 1, 20);
        Check.due("20 people", y.asks(0, 0, 0), 20);
        // "(those that are more in thought, too)": also above 20.
        UpperFloors z = Check.under("weighs people = 40;holds 0;hits 0;");
        z.house(0, 0, 0);
        z.set(0, 1, 20);
        Check.due("20 more in thought", z.bring(0, 24), 20);
    }
}
