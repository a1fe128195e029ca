/** Each promise of the document: ordinary inputs, the edges that it names, wrong inputs. */
public final class PromisesTest {
    private static final int NONE = -1, BAD = -2, STATE = -3, FULL = -4;
    private static final int MISSING = -11, OUTSIDE = -12, UNLIKE = -13, TOO_SMALL = -14;
    private static final long NO = -4611686018427387904L;
    private static final int LEAST = Integer.MIN_VALUE, MOST = Integer.MAX_VALUE;
    private static final String PLAIN = "takes 2 + mark ; lays mark ; leaves 0 ;";
    private static int wrong = 0;
    private static int asked = 0;

    private static void due(String what, long got, long want) {
        asked++;
        if (got != want) {
            wrong++;
            System.out.println(what + " answered " + got + ", due is " + want);
        }
    }

    public static void main(String[] args) {
        newObject();
        setAndTold();
        staff();
        asks();
        kinds();
        bounds();
        feed();
        texts();
        faults();
        depth();
        values();
        names();
        force();
        tide();
        relay();
        night();
        run();
        wrongCells();
        shore();
        worst();
        tour();
        soonest();
        together();
        nearest();
        share();
        tells();
        film();
        drawnAndChance();
        imageAndBack();
        count();
        sheet();
        cell();
        copy();
        crew();
        taken();
        System.out.println(wrong == 0 ? "all " + asked + " answers are as due" : wrong + " answers are not as due");
        if (wrong != 0) {
            System.exit(1);
        }
    }

    private static int read(BeachIsRelaid x, String text) {
        for (int i = 0; i < text.length(); i++) {
            x.feed(text.charAt(i));
        }
        return x.text();
    }

    /** A new object by a text that was read and is the rule. */
    private static BeachIsRelaid by(String text) {
        BeachIsRelaid x = new BeachIsRelaid();
        due("text of " + text, read(x, text), 1);
        due("force(1)", x.force(1), 0);
        return x;
    }

    private static void plans(BeachIsRelaid x, int v, int... cells) {
        for (int c : cells) {
            x.set(2, c, v);
        }
    }

    private static void row(BeachIsRelaid x, int sheet, int sort, int... items) {
        x.sheet(sheet, sort, items.length);
        for (int i = 0; i < items.length; i++) {
            x.cell(sheet, i, items[i]);
        }
    }

    private static long bits(int... cells) {
        long all = 0;
        for (int c : cells) {
            all |= 1L << c;
        }
        return all;
    }

    // Promise 1
    private static void newObject() {
        BeachIsRelaid x = new BeachIsRelaid();
        for (int c = 0; c < 36; c++) {
            due("mark of a new one", x.told(c, 1), 0);
            due("plan of a new one", x.told(c, 2), 0);
        }
        due("staff of a new one", x.count(0), 0);
        due("wrong of a new one", x.count(1), 0);
        due("tide of a new one", x.count(2), 0);
        due("texts of a new one", x.count(3), 1);
        due("tape of a new one", x.count(4), 0);
        due("rule of a new one", x.count(5), 0);
        due("told(0, 3) of a new one", x.told(0, 3), BAD);
        for (int s = 0; s < 4; s++) {
            due("sheet of a new one", x.cell(s, 0, 0), MISSING);
        }
        due("image of a new one", x.back(), STATE);
    }

    // Promises 2 and 4
    private static void setAndTold() {
        BeachIsRelaid x = new BeachIsRelaid();
        due("set(0, -7, 999)", x.set(0, -7, 999), 0);
        due("set(0, 99, 5)", x.set(0, 99, 5), 999);
        due("told(99, 0)", x.told(99, 0), 5);
        due("set(0, 0, -1)", x.set(0, 0, -1), BAD);
        due("set(0, 0, 1000)", x.set(0, 0, 1000), BAD);
        due("set(1, 35, 9)", x.set(1, 35, 9), 0);
        due("set(1, 35, 0)", x.set(1, 35, 0), 9);
        due("set(1, 0, 4)", x.set(1, 0, 4), 0);
        due("set(2, 0, 7)", x.set(2, 0, 7), 0);
        due("told(0, 1)", x.told(0, 1), 4);
        due("told(0, 2)", x.told(0, 2), 7);
        int[] none = {-1, 36, LEAST, MOST};
        for (int c : none) {
            due("set(1, none)", x.set(1, c, 0), BAD);
            due("set(2, none)", x.set(2, c, 0), BAD);
            due("told(none, 1)", x.told(c, 1), BAD);
            due("told(none, 2)", x.told(c, 2), BAD);
        }
        for (int what = 1; what <= 3; what++) {
            due("set(.., 10)", x.set(what, 0, 10), BAD);
            due("set(.., -1)", x.set(what, 0, -1), BAD);
        }
        due("set(3, 0, 1) without staff", x.set(3, 0, 1), BAD);
        x.staff(4, 3, 12);
        x.staff(2, 8, 35);
        due("set(3, 0, 9)", x.set(3, 0, 9), 3);
        due("set(3, 0, 10)", x.set(3, 0, 10), BAD);
        due("set(4, 1, 0)", x.set(4, 1, 0), 35);
        due("set(4, 1, 35)", x.set(4, 1, 35), 0);
        due("set(4, 1, 0) again", x.set(4, 1, 0), 35);
        due("set(4, 1, 36)", x.set(4, 1, 36), BAD);
        due("set(4, 1, -1)", x.set(4, 1, -1), BAD);
        due("set(4, 2, 0)", x.set(4, 2, 0), BAD);
        due("set(4, -1, 0)", x.set(4, -1, 0), BAD);
        due("told(0, 3)", x.told(0, 3), 9);
        due("told(1, 3)", x.told(1, 3), 8);
        due("told(1, 4)", x.told(1, 4), 0);
        due("told(0, 5)", x.told(0, 5), 4);
        due("told(1, 5)", x.told(1, 5), 2);
        due("told(0, 6)", x.told(0, 6), 0);
        for (int what : new int[] {5, 6, 7, -1, LEAST, MOST}) {
            due("set(" + what + ", 0, 0)", x.set(what, 0, 0), BAD);
        }
        for (int what : new int[] {7, -1, LEAST, MOST}) {
            due("told(0, " + what + ")", x.told(0, what), BAD);
        }
        due("told(2, 6)", x.told(2, 6), BAD);
        due("told(-1, 5)", x.told(-1, 5), BAD);
    }

    // Promise 3
    private static void staff() {
        BeachIsRelaid x = new BeachIsRelaid();
        due("staff(-1, 0, 0)", x.staff(-1, 0, 0), BAD);
        due("staff(6, 0, 0)", x.staff(6, 0, 0), BAD);
        due("staff(0, -1, 0)", x.staff(0, -1, 0), BAD);
        due("staff(0, 10, 0)", x.staff(0, 10, 0), BAD);
        due("staff(0, 0, -1)", x.staff(0, 0, -1), BAD);
        due("staff(0, 0, 36)", x.staff(0, 0, 36), BAD);
        due("none came", x.count(0), 0);
        due("staff(5, 9, 35)", x.staff(5, 9, 35), 0);
        due("staff(0, 0, 0)", x.staff(0, 0, 0), 1);
        due("staff(1, 1, 1)", x.staff(1, 1, 1), 2);
        due("staff(3, 4, 5)", x.staff(3, 4, 5), 3);
        due("a fifth that is bad", x.staff(6, 0, 0), BAD);
        due("a fifth", x.staff(0, 0, 0), FULL);
        due("four came", x.count(0), 4);
        due("told(0, 4)", x.told(0, 4), 35);
        due("told(3, 3)", x.told(3, 3), 4);
    }

    // Promise 5
    private static void asks() {
        BeachIsRelaid x = new BeachIsRelaid();
        x.staff(0, 0, 14);
        x.set(2, 21, 7);
        due("asks(0, 21, 0)", x.asks(0, 21, 0), 9);
        due("asks(0, 21, 1)", x.asks(0, 21, 1), 7);
        due("asks(0, 21, 2)", x.asks(0, 21, 2), 2);
        due("asks(0, 21, 3)", x.asks(0, 21, 3), 11);
        due("asks(0, 14, 2)", x.asks(0, 14, 2), 0);
        due("asks(0, 0, 2)", x.asks(0, 0, 2), 4);
        due("asks(0, 35, 2)", x.asks(0, 35, 2), 6);
        x.set(4, 0, 5);
        due("from corner to corner", x.asks(0, 30, 2), 10);
        due("asks(1, 0, 0)", x.asks(1, 0, 0), BAD);
        due("asks(-1, 0, 0)", x.asks(-1, 0, 0), BAD);
        due("asks(0, 36, 0)", x.asks(0, 36, 0), BAD);
        due("asks(0, -1, 0)", x.asks(0, -1, 0), BAD);
        due("asks(0, 0, 4)", x.asks(0, 0, 4), BAD);
        due("asks(0, 0, -1)", x.asks(0, 0, -1), BAD);
    }

    // Terms 1: what each kind takes and lays; the number is 2
    private static void kinds() {
        int[] even = {14, 20};
        int[][] takes = {{7, 7}, {3, 3}, {14, 14}, {3, 3}, {14, 14}, {9, 9}};
        int[][] lays = {{5, 5}, {5, 5}, {5, 5}, {0, 5}, {5, 5}, {5, 5}};
        for (int kind = 0; kind < 6; kind++) {
            BeachIsRelaid x = new BeachIsRelaid();
            x.staff(kind, 2, 0);
            plans(x, 5, even);
            plans(x, 9, 15, 21);
            for (int i = 0; i < 2; i++) {
                due("takes of kind " + kind, x.asks(0, even[i], 0), takes[kind][i]);
                due("lays of kind " + kind, x.asks(0, even[i], 1), lays[kind][i]);
            }
        }
        int[] takesNothing = {2, 1, 4, 2, 4, 4};
        int[] takesNine = {11, 5, 22, 5, 1, 13};
        int[] laysOdd = {0, 1, 0, 1, 0, 0};
        int[] laysNine = {9, 9, 9, 9, 9, 9};
        int[] laysOwnRow = {9, 9, 9, 0, 9, 9};
        for (int kind = 0; kind < 6; kind++) {
            BeachIsRelaid x = new BeachIsRelaid();
            x.staff(kind, 2, 0);
            plans(x, 9, 15, 21);
            due("takes of kind " + kind + " where 0 is planned", x.asks(0, 1, 0), takesNothing[kind]);
            due("takes of kind " + kind + " where 9 is planned", x.asks(0, 21, 0), takesNine[kind]);
            due("lays of kind " + kind + " where 0 is planned", x.asks(0, 1, 1), laysOdd[kind]);
            due("lays of kind " + kind + " where 9 is planned", x.asks(0, 21, 1), laysNine[kind]);
            due("lays of kind " + kind + " in row 2", x.asks(0, 15, 1), laysOwnRow[kind]);
        }
        BeachIsRelaid x = by("takes 5 ; lays 3 ; leaves 0 ;");
        x.staff(5, 0, 0);
        plans(x, 3, 7);
        due("a stout lays what is planned", x.asks(0, 7, 1), 3);
        due("a stout lays nothing else", x.asks(0, 8, 1), 0);
    }

    // Terms 1: the bounds are laid once, in the end
    private static void bounds() {
        int[] nothing = {1, 1, 1, 1, 1, 4};
        int[] much = {99, 49, 99, 50, 99, 99};
        int[] one = {1, 1, 2, 1, 2, 5};
        for (int kind = 0; kind < 6; kind++) {
            BeachIsRelaid x = by("takes mark * 2000 - 5 ; lays 0 - 3 ; leaves 0 ;");
            x.staff(kind, 4, 0);
            due("takes below, kind " + kind, x.asks(0, 0, 0), nothing[kind]);
            due("lays below, kind " + kind, x.asks(0, 2, 1), 0);
            due("lays below on an odd cell, kind " + kind, x.asks(0, 1, 1), kind == 1 || kind == 3 ? 1 : 0);
            x.set(2, 2, 1);
            due("takes above, kind " + kind, x.asks(0, 2, 0), kind == 3 ? 49 : much[kind]);
            BeachIsRelaid y = by("takes 9999 ; lays 9999 ; leaves 9999 ;");
            y.staff(kind, 4, 0);
            due("takes above where 0 is planned, kind " + kind, y.asks(0, 0, 0), much[kind]);
            due("lays above on an odd cell, kind " + kind, y.asks(0, 1, 1), kind == 2 || kind == 4 || kind == 5 ? 0 : 9);
            due("leaves above", y.tide(1), 6);
            due("left", y.told(30, 1), 9);
            BeachIsRelaid z = by("takes 1 ; lays 1 ; leaves 0 - 1 ;");
            z.staff(kind, 4, 0);
            due("takes 1, kind " + kind, z.asks(0, 0, 0), one[kind]);
            z.set(1, 35, 6);
            z.set(2, 35, 6);
            due("leaves below", z.tide(1), 1);
            due("left below", z.told(35, 1), 0);
        }
    }

    // Promise 6
    private static void feed() {
        BeachIsRelaid x = new BeachIsRelaid();
        due("feed(-1)", x.feed(-1), BAD);
        due("feed(256)", x.feed(256), BAD);
        for (int i = 1; i <= 160; i++) {
            due("feed of byte " + i, x.feed(i % 2 == 0 ? 0 : 255), i);
        }
        due("feed behind all", x.feed(32), FULL);
        due("a bad one behind all", x.feed(256), BAD);
        due("bytes", x.count(4), 160);
        due("a text of no tokens", x.text(), -100);
        due("bytes behind a fault", x.count(4), 0);
        due("feed anew", x.feed(116), 1);
        x.text();
        for (int i = 1; i <= 160; i++) {
            due("feed of sign " + i, x.feed(';'), i);
        }
        due("a text of 160 tokens", x.text(), -100);
    }

    // Promise 7
    private static void texts() {
        BeachIsRelaid x = new BeachIsRelaid();
        due("an empty tape", x.text(), -100);
        for (int number = 1; number < 6; number++) {
            due("text " + number, read(x, PLAIN), number);
            due("the tape behind it", x.count(4), 0);
            due("texts", x.count(3), number + 1);
        }
        due("one text too much", read(x, PLAIN), FULL);
        due("the tape stays", x.count(4), PLAIN.length());
        x.feed('?');
        due("full ahead of a fault", x.text(), FULL);
        due("the tape stays again", x.count(4), PLAIN.length() + 1);
        due("the rule stays", x.count(5), 0);
        BeachIsRelaid y = new BeachIsRelaid();
        StringBuilder long160 = new StringBuilder("takes 1;lays 1;leaves 1;");
        while (long160.length() < 160) {
            long160.append('\n');
        }
        due("a text of 160 bytes", read(y, long160.toString()), 1);
        due("a text without blanks", read(y, "takes2;lays3;leaves4;"), 2);
        due("a text with blanks all about", read(y, " \n takes\n2 ;lays mark*3\n; leaves ( 4 ) ; "), 3);
    }

    private static void fault(String text, int place) {
        BeachIsRelaid x = new BeachIsRelaid();
        due("text of '" + text + "'", read(x, text), -100 - place);
        due("the tape behind '" + text + "'", x.count(4), 0);
        due("the texts behind '" + text + "'", x.count(3), 1);
    }

    private static void good(String text) {
        due("text of '" + text + "'", read(new BeachIsRelaid(), text), 1);
    }

    // Terms 1: faults
    private static void faults() {
        fault("   ", 3);
        fault("lays 1 ;", 0);
        fault(" takes", 6);
        fault("takes 1", 7);
        fault("takes 1  ", 9);
        fault("takes 1 lays 2 ;", 8);
        fault("takes 1 ; leaves 1 ;", 10);
        fault("takes 1 ; lays 2 ;", 18);
        fault("takes 1 ; lays 2 ; leaves 3", 27);
        fault("takes 1 ; lays 2 ; leaves 3 ; ;", 30);
        fault("takes 1 ; lays 2 ; leaves 3 ; takes", 30);
        fault("takes ;", 6);
        fault("takes 1 2 ;", 8);
        fault("takes 1 mark ;", 8);
        fault("takes 3mark ;", 7);
        fault("takes 12345 ;", 6);
        fault("takes 1 12345 ;", 8);
        fault("takes 1 + 00001 ;", 10);
        fault("takes markrow ;", 6);
        fault("takes marks ;", 6);
        fault("takes mar ;", 6);
        fault("takes Mark ;", 6);
        fault("takes 1 ? 2 ;", 8);
        fault("takes 1\t;", 7);
        fault("takes 1 / 2 ;", 8);
        fault("takes 1 > 2 ;", 8);
        fault("takes takes ;", 6);
        fault("takes + 1 ;", 6);
        fault("takes 1 + ;", 10);
        fault("takes 1 + + 2 ;", 10);
        fault("takes 1 + not 2 ;", 10);
        fault("takes - not 2 ;", 8);
        fault("takes 1 < not 2 ;", 10);
        fault("takes 1 < 2 < 3 ;", 12);
        fault("takes 1 = 2 < 3 ;", 12);
        fault("takes not 1 = 2 = 3 ;", 16);
        fault("takes 1 and or 2 ;", 12);
        fault("takes or 2 ;", 6);
        fault("takes 1 not 2 ;", 8);
        fault("takes ( 1 ;", 10);
        fault("takes ( 1 ) ) ;", 12);
        fault("takes ( ) ;", 8);
        fault("takes ( 1", 9);
        fault("takes 1 ( 2 ) ;", 8);
        fault("takes 1 ; lays a ; leaves 1 ;", 15);
        good("takes 9999 ; lays 0000 ; leaves 0 ;");
        good("takes 1 < 2 and 2 < 3 or not 3 = 4 ; lays ( 1 < 2 ) < 3 ; leaves - ( not 1 ) * - 2 - - 3 ;");
        good("takes not not 1 ; lays ( not 1 ) + 1 ; leaves 1+-1 ;");
        good("takes mark ; lays row + column ; leaves tide * number - beside ;");
    }

    // Terms 1: not more than 5 are open
    private static void depth() {
        good("takes (((((1))))) ; lays -----1 ; leaves not not not not not 1 ;");
        good("takes (-(-(1))) ; lays not -(not -1) ; leaves not (not (not 1)) ;");
        fault("takes ((((((1)))))) ;", 11);
        fault("takes ------1 ;", 11);
        fault("takes not not not not not not 1 ;", 26);
        fault("takes not ( not ( - - 1 ) ) ;", 20);
        fault("takes not ( not ( - ( 1 ) ) ) ;", 20);
        fault("takes (((((1 + (2)))))) ;", 15);
        fault("takes (((((1 + -2))))) ;", 15);
        fault("takes (((((not 1))))) ;", 11);
        good("takes (((((1 - 2))))) ; lays (1)+(1)+(1)+(1)+(1)+(1)+(1) ; leaves -1+-1+-1+-1+-1+-1 ;");
        good("takes not 1 and not 1 and not 1 and not 1 and not 1 and not 1 ; lays 1 ; leaves 1 ;");
        good("takes not 1 or not not not not not 1 ; lays ((((1))) + (((-1)))) ; leaves 0 ;");
    }

    private static void value(String e, int want) {
        BeachIsRelaid x = by("takes " + e + " ; lays 0 ; leaves 0 ;");
        x.staff(5, 9, 0);
        due("the value of " + e, x.asks(0, 0, 0) - 9, want);
    }

    // Terms 1: what an E comes to; a stout of number 9 takes 9 more
    private static void values() {
        value("7 - 3 - 2", 2);
        value("7 - ( 3 - 2 )", 6);
        value("2 + 3 * 4", 14);
        value("( 2 + 3 ) * 4", 20);
        value("- 2 + 5", 3);
        value("- ( 2 - 5 ) * 3", 9);
        value("10 - - 3", 13);
        value("2 < 3", 1);
        value("3 < 3", 0);
        value("3 = 3", 1);
        value("3 = 4", 0);
        value("0 - 5 < 0 - 4", 1);
        value("1 + 1 = 2", 1);
        value("5 or 0", 1);
        value("0 or 0", 0);
        value("5 and 7", 1);
        value("5 and 0", 0);
        value("1 or 0 and 0", 1);
        value("( 1 or 0 ) and 0", 0);
        value("not 0", 1);
        value("not 7", 0);
        value("not not 7", 1);
        value("not 1 and 0", 0);
        value("not ( 1 and 0 )", 1);
        value("not 3 = 4", 1);
        value("not 1 = 0", 1);
        value("( not 0 ) + 4", 5);
        value("( 2 < 3 ) * 7 + ( 3 < 2 ) * 8", 7);
        value("42 or 1 and 3", 1);
        value("65", 65);
        value("9999 * 9999 * 22 < 0", 1);
        value("0016", 16);
        value("8192 * 8192 * 64 = 0", 1);
        value("8192 * 8192 * 32 = - ( 8192 * 8192 * 32 )", 1);
        value("0 - 5", 0);
    }

    // Terms 1: the names
    private static void names() {
        BeachIsRelaid x = by("takes mark*10+row ; lays column ; leaves mark+1+tide*0+row*0 ;");
        x.staff(0, 6, 0);
        x.set(2, 22, 4);
        x.set(1, 22, 8);
        due("mark is the plan", x.asks(0, 22, 0), 43);
        due("the column", x.asks(0, 22, 1), 4);
        x.set(1, 31, 3);
        x.set(2, 31, 7);
        x.tide(1);
        due("of leaves it is the mark", x.told(31, 1), 4);
        due("above the tide", x.told(22, 1), 8);
        BeachIsRelaid y = by("takes tide ; lays number ; leaves number + 2 + tide ;");
        y.staff(0, 6, 0);
        y.set(0, 0, 50);
        due("the tide", y.asks(0, 0, 0), 50);
        due("the number", y.asks(0, 0, 1), 6);
        y.set(0, 0, 3);
        y.tide(6);
        due("of leaves the number is 0, the tide as ahead", y.told(0, 1), 5);
        due("the tide behind", y.told(0, 0), 4);
        BeachIsRelaid z = by("takes beside * 10 + 1 ; lays beside ; leaves beside ;");
        z.staff(0, 0, 0);
        plans(z, 1, 8, 13, 15, 20, 5, 6);
        due("beside in the midst", z.asks(0, 14, 0), 41);
        due("beside itself", z.asks(0, 8, 0), 1);
        due("beside in a corner", z.asks(0, 0, 1), 1);
        due("not round the edge", z.asks(0, 11, 1), 1);
        due("nor to the next row", z.asks(0, 12, 1), 2);
        BeachIsRelaid w = by("takes 1 ; lays 0 ; leaves beside ;");
        plans(w, 1, 24, 30, 35);
        due("all is told ahead of a tide", w.tide(2), 5);
        due("24", w.told(24, 1), 1);
        due("25", w.told(25, 1), 1);
        due("30", w.told(30, 1), 1);
        due("31", w.told(31, 1), 1);
        due("34", w.told(34, 1), 1);
        due("35", w.told(35, 1), 0);
        due("29", w.told(29, 1), 1);
    }

    // Promise 8
    private static void force() {
        BeachIsRelaid x = new BeachIsRelaid();
        due("force(1) that is none", x.force(1), BAD);
        due("force(-1)", x.force(-1), BAD);
        due("force(0)", x.force(0), 0);
        read(x, "takes 50 ; lays 5 ; leaves 5 ;");
        x.staff(0, 0, 0);
        due("not the rule yet", x.asks(0, 0, 0), 2);
        due("force(1)", x.force(1), 0);
        due("the rule", x.count(5), 1);
        due("by it", x.asks(0, 0, 0), 50);
        due("force(2)", x.force(2), BAD);
        due("force(6)", x.force(6), BAD);
        due("force(0) again", x.force(0), 1);
        due("by the first", x.asks(0, 0, 0), 2);
    }

    // Promise 9
    private static void tide() {
        BeachIsRelaid x = new BeachIsRelaid();
        for (int c = 0; c < 36; c++) {
            x.set(1, c, 1 + c % 9);
            x.set(2, c, 1 + c % 9);
        }
        due("tide(-1)", x.tide(-1), BAD);
        due("tide(7)", x.tide(7), BAD);
        due("tide(0)", x.tide(0), 0);
        due("it is one more", x.count(2), 1);
        due("tide(1)", x.tide(1), 6);
        due("row 5", x.told(30, 1), 0);
        due("row 4", x.told(29, 1), 3);
        due("tide(6)", x.tide(6), 36);
        due("row 0", x.told(0, 1), 0);
        due("the tides", x.told(0, 0), 3);
        x.set(0, 0, 999);
        due("tide(0) at 999", x.tide(0), STATE);
        due("tide(7) at 999", x.tide(7), BAD);
        x.set(0, 0, 998);
        due("tide(0) at 998", x.tide(0), 36);
        due("the last tide", x.told(0, 0), 999);
    }

    // Promise 10
    private static void relay() {
        BeachIsRelaid x = new BeachIsRelaid();
        x.staff(1, 0, 35);
        x.set(2, 1, 5);
        x.set(2, 2, 4);
        due("relay(1, 0)", x.relay(1, 0), BAD);
        due("relay(-1, 0)", x.relay(-1, 0), BAD);
        due("relay(0, 36)", x.relay(0, 36), BAD);
        due("relay(0, -1)", x.relay(0, -1), BAD);
        due("relay(0, 1)", x.relay(0, 1), 12);
        due("with a mistake", x.told(1, 1), 6);
        due("where one stands", x.told(0, 4), 1);
        due("laid", x.told(0, 6), 1);
        due("relay(0, 2)", x.relay(0, 2), 4);
        due("without one", x.told(2, 1), 4);
        due("relay where one stands", x.relay(0, 2), 3);
        due("laid thrice", x.told(0, 6), 3);
        due("still wrong", x.count(1), 1);
        BeachIsRelaid y = by("takes beside + 2 ; lays mark ; leaves 0 ;");
        y.staff(0, 0, 0);
        plans(y, 1, 0, 1);
        due("told ahead", y.relay(0, 0), 3);
        due("and now", y.relay(0, 1), 3);
        BeachIsRelaid z = new BeachIsRelaid();
        z.staff(5, 0, 0);
        for (int c = 0; c < 36; c++) {
            z.set(2, c, 9);
        }
        z.force(0);
        read(z, "takes 1 ; lays 1 ; leaves 0 ;");
        z.force(1);
        for (int i = 0; i < 290; i++) {
            z.night(0, 999);
        }
        due("laid has a bound", z.told(0, 6), 9999);
        z.relay(0, 0);
        due("and stays there", z.told(0, 6), 9999);
    }

    // Promise 11
    private static void night() {
        BeachIsRelaid x = new BeachIsRelaid();
        x.staff(0, 0, 14);
        plans(x, 1, 13, 15, 8, 20, 35);
        due("night(1, 0)", x.night(1, 0), BAD);
        due("night(-1, 0)", x.night(-1, 0), BAD);
        due("night(0, -1)", x.night(0, -1), BAD);
        due("night(0, 1000)", x.night(0, 1000), BAD);
        due("night(0, 0)", x.night(0, 0), 0);
        due("night(0, 3)", x.night(0, 3), 0);
        due("one stays", x.told(0, 4), 14);
        due("night(0, 4)", x.night(0, 4), 1);
        due("the first of like ones", x.told(0, 4), 8);
        due("night(0, 10)", x.night(0, 10), 2);
        due("the nearest, then the nearest from there", x.told(0, 4), 15);
        due("laid", x.told(0, 6), 3);
        due("night(0, 999)", x.night(0, 999), 2);
        due("all is laid", x.count(1), 0);
        due("a night without work", x.night(0, 999), 0);
        BeachIsRelaid y = new BeachIsRelaid();
        y.staff(1, 0, 1);
        plans(y, 3, 1, 3);
        due("a boy relays none twice a night", y.night(0, 999), 2);
        due("they are wrong still", y.count(1), 2);
        due("the next night", y.night(0, 999), 2);
        BeachIsRelaid z = new BeachIsRelaid();
        z.staff(0, 0, 0);
        plans(z, 9, 1);
        plans(z, 1, 3);
        due("no minutes for the nearest: the night is over", z.night(0, 11), 0);
        due("minutes for it", z.night(0, 12), 1);
    }

    // Promise 12
    private static void run() {
        BeachIsRelaid x = new BeachIsRelaid();
        x.staff(1, 0, 0);
        plans(x, 3, 1, 2, 8);
        due("run(1, 0, 0)", x.run(1, 0, 0), BAD);
        due("run(-1, 0, 0)", x.run(-1, 0, 0), BAD);
        due("run(0, -1, 0)", x.run(0, -1, 0), BAD);
        due("run(0, 1000, 0)", x.run(0, 1000, 0), BAD);
        due("run(0, 0, -1)", x.run(0, 0, -1), BAD);
        due("run(0, 0, 4)", x.run(0, 0, 4), BAD);
        due("run(0, 0, 0)", x.run(0, 0, 0), 0);
        due("run(0, 999, 0)", x.run(0, 999, 0), 9);
        due("run(0, 8, 0)", x.run(0, 8, 0), 6);
        due("run(0, 8, 1)", x.run(0, 8, 1), 2);
        due("run(0, 8, 2)", x.run(0, 8, 2), 2);
        due("run(0, 8, 3)", x.run(0, 8, 3), 2);
        due("run(0, 9, 0)", x.run(0, 9, 0), 9);
        due("run(0, 9, 1)", x.run(0, 9, 1), 3);
        due("run(0, 9, 2)", x.run(0, 9, 2), 1);
        due("run(0, 9, 3)", x.run(0, 9, 3), 8);
        due("nothing was done: wrong", x.count(1), 3);
        due("nothing was done: at", x.told(0, 4), 0);
        due("nothing was done: laid", x.told(0, 6), 0);
    }

    // Promise 13
    private static void wrongCells() {
        BeachIsRelaid x = new BeachIsRelaid();
        due("none is wrong", x.wrong(0), 0);
        plans(x, 1, 0, 1, 7, 13, 5, 6 + 5, 12, 35, 30);
        x.set(1, 30, 1);
        due("wrong(0)", x.wrong(0), bits(0, 1, 7, 13, 12, 5, 11, 35));
        due("a heap round a corner", x.wrong(10), bits(0, 1, 7, 13, 12));
        due("the same from its end", x.wrong(22), bits(0, 1, 7, 13, 12));
        due("a heap at the edge", x.wrong(15), bits(5, 11));
        due("a heap of one", x.wrong(45), bits(35));
        due("no heap", x.wrong(12), 0);
        due("laid as planned", x.wrong(40), 0);
        for (int what : new int[] {-1, 1, 9, 46, 49, 50, 53, LEAST, MOST}) {
            due("wrong(" + what + ")", x.wrong(what), NO);
        }
        x.staff(1, 0, 0);
        x.staff(2, 0, 0);
        long even = 0;
        for (int c = 0; c < 36; c += 2) {
            even |= 1L << c;
        }
        due("true of a boy", x.wrong(50), even);
        due("true of a master", x.wrong(51), (1L << 36) - 1);
        due("true of none", x.wrong(52), NO);
        x.set(2, 1, 9);
        due("a boy's nine", x.wrong(50), even | 2);
    }

    // Promise 14
    private static void shore() {
        BeachIsRelaid x = new BeachIsRelaid();
        int[] flat = {0, 0, 0, 0, 0, NONE};
        for (int what = 0; what < 6; what++) {
            due("shore of a flat one " + what, x.shore(what), flat[what]);
        }
        plans(x, 1, 3, 4, 5, 6, 12, 18, 24, 23);
        int[] some = {8, 3, 4, 0, 8, 3};
        for (int what = 0; what < 6; what++) {
            due("shore " + what, x.shore(what), some[what]);
        }
        due("shore(-1)", x.shore(-1), BAD);
        due("shore(6)", x.shore(6), BAD);
        for (int c = 0; c < 36; c++) {
            x.set(2, c, (c + c / 6) % 2);
        }
        due("a board: heaps", x.shore(1), 18);
        due("a board: greatest", x.shore(2), 1);
        for (int c = 0; c < 36; c++) {
            x.set(2, c, 1);
        }
        due("all: heaps", x.shore(1), 1);
        due("all: greatest", x.shore(2), 36);
    }

    private static void worst() {
        BeachIsRelaid x = new BeachIsRelaid();
        for (int c = 0; c < 36; c++) {
            x.set(2, c, 1);
            x.set(1, c, c / 6 == 2 || c / 6 == 5 ? 1 : 0);
        }
        due("worst", x.shore(3), 4);
        due("wrong then", x.shore(4), 36);
        x.set(2, 0, 0);
        x.set(1, 0, 1);
        due("worst less a cell", x.shore(3), 4);
        due("wrong then less a cell", x.shore(4), 36);
        x.set(0, 0, 999);
        due("worst at the last tide", x.shore(3), 4);
        due("the tide stays", x.told(0, 0), 999);
        due("the marks stay", x.told(35, 1), 1);
        BeachIsRelaid y = by("takes 1 ; lays 1 ; leaves tide ;");
        plans(y, 3, 30, 31);
        y.set(0, 0, 3);
        plans(y, 3, 0);
        y.set(1, 0, 3);
        due("then by reach 0", y.drawn(seedOf(0)), 2);
        due("worst by the tide that is", y.shore(3), 6);
        due("then", y.shore(4), 33);
        y.set(0, 0, 0);
        due("by tide 0 reach 6 is worst by one", y.shore(3), 6);
        due("by one cell", y.shore(4), 3);
        plans(y, 0, 0);
        y.set(1, 0, 0);
        due("like ones: the least", y.shore(3), 0);
    }

    private static int seedOf(int reach) {
        int seed = 0;
        while ((seed * 1103515245 + 12345 >>> 9) % 7 != reach) {
            seed++;
        }
        return seed;
    }

    // Promise 15
    private static void tour() {
        BeachIsRelaid x = new BeachIsRelaid();
        x.staff(0, 0, 0);
        due("tour(-1, 0)", x.tour(-1, 0), BAD);
        due("tour(4, 0)", x.tour(4, 0), BAD);
        due("a bad one of a missing sheet", x.tour(0, 1), BAD);
        due("tour of a missing sheet", x.tour(0, 0), MISSING);
        row(x, 0, 2, 5, 35, 0);
        x.set(2, 35, 4);
        due("tour(0, 0)", x.tour(0, 0), 5 + 2 + 5 + 6 + 10 + 2);
        due("one did not go", x.told(0, 4), 0);
        due("nothing was laid", x.told(35, 1), 0);
        due("tour(0, -1)", x.tour(0, -1), BAD);
        x.cell(0, 2, 36);
        due("no such cell", x.tour(0, 0), BAD);
        x.cell(0, 2, -1);
        due("no such cell either", x.tour(0, 0), BAD);
        x.cell(0, 2, 5);
        due("one twice", x.tour(0, 0), BAD);
        x.sheet(1, 0, 0);
        due("no cells", x.tour(1, 0), 0);
        x.sheet(1, 1, 40);
        due("more than there are", x.tour(1, 0), BAD);
        x.sheet(1, 1, 36);
        for (int i = 0; i < 36; i++) {
            x.cell(1, i, 35 - i);
        }
        due("all there are", x.tour(1, 0), 10 + 30 + 5 * 6 + 36 * 2 + 4);
        BeachIsRelaid y = by("takes beside * 10 + 1 ; lays mark ; leaves 0 ;");
        y.staff(0, 0, 0);
        plans(y, 1, 1, 2, 3);
        row(y, 0, 0, 2, 1, 3);
        due("by what lies there when one comes", y.tour(0, 0), 2 + 21 + 1 + 1 + 2 + 1);
        y.sheet(0, -1, 0);
        due("a sheet that is missing again", y.tour(0, 0), MISSING);
    }

    // Promise 16
    private static void soonest() {
        BeachIsRelaid x = new BeachIsRelaid();
        due("soonest(0, 0) of none", x.soonest(0, 0), BAD);
        x.staff(0, 0, 14);
        due("nothing to do", x.soonest(0, 0), 0);
        due("nowhere", x.soonest(0, 1), NONE);
        plans(x, 1, 12, 17);
        due("minutes", x.soonest(0, 0), 2 + 5 + 6);
        due("its first", x.soonest(0, 1), 12);
        x.set(4, 0, 15);
        due("minutes from the other side", x.soonest(0, 0), 2 + 5 + 6);
        due("its first from there", x.soonest(0, 1), 17);
        plans(x, 0, 12, 17);
        x.set(4, 0, 0);
        plans(x, 2, 6, 1);
        due("like ones", x.soonest(0, 0), 1 + 2 + 8);
        due("the first of like ones", x.soonest(0, 1), 1);
        plans(x, 2, 30, 35, 5, 21, 28);
        due("seven", x.soonest(0, 0) > 0 ? 1 : 0, 1);
        due("soonest(0, -1)", x.soonest(0, -1), BAD);
        due("soonest(0, 2)", x.soonest(0, 2), BAD);
        due("soonest(-1, 0)", x.soonest(-1, 0), BAD);
        plans(x, 2, 22);
        due("eight", x.soonest(0, 0), STATE);
        due("eight, first", x.soonest(0, 1), STATE);
        due("eight, bad", x.soonest(1, 0), BAD);
        due("eight, bad what", x.soonest(0, 2), BAD);
        BeachIsRelaid y = by("takes beside * 10 + 1 ; lays mark ; leaves 0 ;");
        y.staff(0, 0, 0);
        plans(y, 1, 1, 2, 3);
        due("by what lies now", y.soonest(0, 0), 3 + 11 + 21 + 11);
    }

    // Promise 17
    private static void together() {
        BeachIsRelaid x = new BeachIsRelaid();
        due("no staff", x.together(0), 0);
        due("no one", x.together(10), BAD);
        x.staff(0, 0, 0);
        x.staff(0, 0, 5);
        due("nothing to do", x.together(0), 0);
        due("nowhere", x.together(11), NONE);
        plans(x, 1, 4);
        due("one cell", x.together(0), 4);
        due("the other stays", x.together(10), NONE);
        due("the nearer goes", x.together(11), 4);
        plans(x, 1, 2);
        due("two cells", x.together(0), 3 + 2 + 3 + 1);
        due("first", x.together(10), 2);
        due("second", x.together(11), 4);
        x.staff(5, 9, 4);
        due("the third stays", x.together(12), NONE);
        due("no dearer", x.together(0), 9);
        for (int what : new int[] {-1, 1, 9, 13, 14, LEAST, MOST}) {
            due("together(" + what + ")", x.together(what), BAD);
        }
        plans(x, 1, 30, 31, 32, 33, 34);
        due("seven", x.together(0) > 0 ? 1 : 0, 1);
        plans(x, 1, 35);
        due("eight", x.together(0), STATE);
        due("eight, of one", x.together(10), STATE);
        due("eight, bad", x.together(13), BAD);
        BeachIsRelaid y = new BeachIsRelaid();
        y.staff(0, 0, 7);
        y.staff(0, 0, 7);
        plans(y, 1, 6, 8, 1);
        due("like ones", y.together(0), 8);
        due("the first of like ones", y.together(10), 1);
        due("then the second", y.together(11), 6);
        plans(y, 0, 6, 8);
        due("who goes nowhere is behind all cells", y.together(10), 1);
        due("so the second stays", y.together(11), NONE);
    }

    // Promise 18
    private static void nearest() {
        BeachIsRelaid x = new BeachIsRelaid();
        due("no staff", x.nearest(0, 0), NONE);
        due("no minutes", x.nearest(0, 1), NONE);
        due("nearest(-1, 0)", x.nearest(-1, 0), BAD);
        due("nearest(36, 0)", x.nearest(36, 0), BAD);
        due("nearest(0, -1)", x.nearest(0, -1), BAD);
        due("nearest(0, 2)", x.nearest(0, 2), BAD);
        x.staff(2, 0, 0);
        x.staff(0, 0, 2);
        x.staff(0, 0, 4);
        x.staff(1, 0, 7);
        due("who is through soonest", x.nearest(0, 0), 3);
        due("minutes", x.nearest(0, 1), 3);
        due("of like ones the first", x.nearest(3, 0), 1);
        due("minutes of both", x.nearest(3, 1), 3);
        x.set(2, 0, 9);
        due("a boy's half", x.nearest(0, 0), 3);
        due("of nine and two", x.nearest(0, 1), 7);
        due("the farthest", x.nearest(35, 1), 6 + 2);
    }

    // Promise 19
    private static void share() {
        BeachIsRelaid x = new BeachIsRelaid();
        due("none is wrong", x.share(0, 0), NO);
        plans(x, 1, 9);
        due("one is wrong, above", x.share(1, 0), 1);
        due("one is wrong, below", x.share(1, 1), 1);
        due("not in row 0", x.share(0, 0), 0);
        plans(x, 0, 9);
        plans(x, 1, 0, 1, 2, 7, 35, 34);
        due("row 0 above", x.share(0, 0), 1);
        due("row 0 below", x.share(0, 1), 2);
        due("row 1 above", x.share(1, 0), 1);
        due("row 1 below", x.share(1, 1), 6);
        due("row 2 above", x.share(2, 0), 0);
        due("row 2 below", x.share(2, 1), 1);
        due("row 5 above", x.share(5, 0), 1);
        due("row 5 below", x.share(5, 1), 3);
        for (int none : new int[] {-1, 6, LEAST, MOST}) {
            due("share(" + none + ", 0)", x.share(none, 0), NO);
        }
        for (int none : new int[] {-1, 2, LEAST, MOST}) {
            due("share(0, " + none + ")", x.share(0, none), NO);
        }
    }

    // Promise 20
    private static void tells() {
        BeachIsRelaid x = new BeachIsRelaid();
        x.staff(1, 3, 0);
        plans(x, 4, 0, 1, 2);
        due("tells(0, 0, 0) of a missing sheet", x.tells(0, 0, 0), MISSING);
        due("tells(-1, 0, 0)", x.tells(-1, 0, 0), BAD);
        due("tells(4, 0, 0)", x.tells(4, 0, 0), BAD);
        due("tells(0, 1, 0)", x.tells(0, 1, 0), BAD);
        due("tells(0, 1, 6)", x.tells(0, 1, 6), BAD);
        due("tells(0, 0, -1)", x.tells(0, 0, -1), BAD);
        due("tells(0, 0, 7)", x.tells(0, 0, 7), BAD);
        row(x, 0, 0, 4, 5, 4);
        due("as one lays", x.tells(0, 0, 0), NONE);
        due("kinds", x.tells(0, 0, 1), 1 << 1 | 1 << 3);
        due("numbers", x.tells(0, 0, 2), 1023);
        due("tides", x.tells(0, 0, 3), 100);
        due("the least tide", x.tells(0, 0, 4), 0);
        due("texts", x.tells(0, 0, 5), 1);
        row(x, 1, 1, 4, 5, 5);
        due("the first that is otherwise", x.tells(1, 0, 0), 2);
        int[] never = {2, 0, 0, 0, NONE, 0};
        for (int what = 0; what < 6; what++) {
            due("never so " + what, x.tells(1, 0, what), never[what]);
        }
        x.staff(3, 0, 0);
        due("a lad in row 0", x.tells(0, 1, 0), 0);
        due("a lad's numbers", x.tells(0, 1, 2), 1022);
        x.sheet(2, 0, 37);
        due("more than 36", x.tells(2, 0, 0), BAD);
        due("more than 36 marks", x.tells(2, 0, 6), BAD);
        x.sheet(2, 0, 36);
        due("36", x.tells(2, 0, 0), 0);
        due("marks", x.tells(2, 0, 6), 127);
        x.set(1, 29, 5);
        due("reaches", x.tells(2, 0, 6), 1 << 2 | 1 << 3 | 1 << 4 | 1 << 5 | 1 << 6);
        x.cell(2, 29, 5);
        due("reaches below", x.tells(2, 0, 6), 3);
        x.sheet(2, 0, 0);
        due("no marks", x.tells(2, 0, 6), 127);
        due("no cells", x.tells(2, 0, 1), 63);
        tellsByTexts();
    }

    private static void tellsByTexts() {
        BeachIsRelaid x = new BeachIsRelaid();
        read(x, "takes 1 ; lays tide - 90 ; leaves 4 ;");
        read(x, "takes 1 ; lays number + beside ; leaves tide ;");
        read(x, "takes 1 ; lays 8 ; leaves 0 ;");
        x.force(1);
        x.staff(0, 7, 3);
        x.set(0, 0, 98);
        row(x, 0, 2, 8, 8);
        due("as by the tide that is", x.tells(0, 0, 0), NONE);
        due("one tide", x.tells(0, 0, 3), 1);
        due("that tide", x.tells(0, 0, 4), 98);
        due("texts of now", x.tells(0, 0, 5), 1 << 1 | 1 << 3);
        x.set(0, 0, 500);
        due("not now", x.tells(0, 0, 0), 0);
        due("the same tide", x.tells(0, 0, 4), 98);
        row(x, 0, 2, 9, 9);
        due("by the bound", x.tells(0, 0, 0), NONE);
        due("tides 99", x.tells(0, 0, 3), 1);
        row(x, 0, 2, 0, 0);
        due("tides 0 to 90", x.tells(0, 0, 3), 91);
        read(x, "takes 1 ; lays 99 < tide ; leaves 0 ;");
        x.force(4);
        row(x, 0, 2, 1, 1);
        due("tides 100 and more are not told", x.tells(0, 0, 3), 0);
        due("no least tide", x.tells(0, 0, 4), NONE);
        x.force(2);
        x.set(2, 6, 1);
        row(x, 0, 0, 6, 5);
        due("numbers by beside", x.tells(0, 0, 2), 1 << 5);
        row(x, 0, 0, 8, 7);
        due("texts by beside", x.tells(0, 0, 5), 1 << 2);
        x.set(0, 0, 3);
        x.sheet(1, 1, 36);
        for (int c = 24; c < 36; c++) {
            x.cell(1, c, 3);
        }
        due("reaches by the tide that is", x.tells(1, 0, 6), 1 << 2);
        due("the rule stays", x.count(5), 2);
        due("the number stays", x.told(0, 3), 7);
        due("the tide stays", x.told(0, 0), 3);
    }

    // Promise 21
    private static void film() {
        BeachIsRelaid x = new BeachIsRelaid();
        x.staff(1, 0, 8);
        plans(x, 3, 0, 1, 35);
        due("film(-1, 0, 0)", x.film(-1, 0, 0), BAD);
        due("film(4, 0, 0)", x.film(4, 0, 0), BAD);
        due("film(0, 1, 0)", x.film(0, 1, 0), BAD);
        due("film(0, -1, 0)", x.film(0, -1, 0), BAD);
        due("film(0, 0, -1)", x.film(0, 0, -1), BAD);
        due("film(0, 0, 37)", x.film(0, 0, 37), BAD);
        due("still missing", x.cell(0, 0, 0), MISSING);
        due("film(0, 0, 36)", x.film(0, 0, 36), 36);
        due("as one lays", x.tells(0, 0, 0), NONE);
        due("item 36 is outside", x.cell(0, 36, 0), OUTSIDE);
        x.cell(0, 35, 3);
        due("otherwise", x.tells(0, 0, 0), 35);
        due("bytes", x.crew(0, 1, 0, 0), UNLIKE);
        due("bytes they are", x.crew(0, 0, 0, 0), 0);
        x.sheet(1, 2, 40);
        due("film(1, 0, 0)", x.film(1, 0, 0), 0);
        due("of no items", x.cell(1, 0, 0), OUTSIDE);
        due("one stays", x.told(0, 4), 8);
        due("nothing was laid", x.count(1), 3);
    }

    // Promises 22 and 23
    private static void drawnAndChance() {
        BeachIsRelaid x = new BeachIsRelaid();
        for (int c = 0; c < 36; c++) {
            x.set(1, c, 1);
            x.set(2, c, 1);
        }
        int[] seeds = {0, 1, 2, 3, -1, -2, 1000, LEAST, MOST, 123456789};
        for (int seed : seeds) {
            int z = seed * 1103515245 + 12345;
            due("drawn(" + seed + ")", x.drawn(seed), (z >>> 9) % 7 * 6);
        }
        due("drawn(0) is by reach 3", x.drawn(0), 18);
        due("nothing came", x.count(1), 0);
        due("no tide came", x.count(2), 0);
        for (int m = 1; m <= 20; m++) {
            for (int k = 0; k <= 36; k += 4) {
                chanceOf(x, MOST - 3, m, k);
            }
        }
        due("chance of m 0", x.chance(0, 0, 0, 0), NO);
        due("chance of m 21", x.chance(0, 21, 0, 0), NO);
        due("chance of k -1", x.chance(0, 1, -1, 0), NO);
        due("chance of k 37", x.chance(0, 1, 37, 0), NO);
        due("chance of part -1", x.chance(0, 1, 0, -1), NO);
        due("chance of part 2", x.chance(0, 1, 0, 2), NO);
        x.set(0, 0, 999);
        due("drawn at the last tide", x.drawn(0), 18);
    }

    private static void chanceOf(BeachIsRelaid x, int seed, int m, int k) {
        int many = 0;
        for (int i = 0; i < m; i++) {
            many += x.drawn(seed + i) >= k ? 1 : 0;
        }
        int common = m;
        while (many % common != 0 || m % common != 0) {
            common--;
        }
        due("chance of " + m + " seeds, " + k + ", above", x.chance(seed, m, k, 0), many / common);
        due("chance of " + m + " seeds, " + k + ", below", x.chance(seed, m, k, 1), m / common);
    }

    // Promises 24 and 25
    private static void imageAndBack() {
        BeachIsRelaid x = new BeachIsRelaid();
        due("back without an image", x.back(), STATE);
        due("an image of none", x.image(), 0);
        read(x, "takes 1 ; lays 1 ; leaves 1 ;");
        x.staff(0, 1, 2);
        x.staff(3, 4, 5);
        x.set(0, 0, 7);
        x.set(1, 1, 2);
        x.set(2, 2, 3);
        x.relay(1, 35);
        x.force(1);
        due("an image", x.image(), 2);
        x.set(0, 0, 8);
        x.set(1, 1, 5);
        x.set(2, 2, 6);
        x.set(3, 0, 9);
        x.set(4, 0, 9);
        x.relay(1, 0);
        x.staff(5, 5, 5);
        x.force(0);
        read(x, "takes 2 ; lays 2 ; leaves 2 ;");
        x.feed(33);
        row(x, 3, 2, 77);
        due("back", x.back(), 2);
        due("tide", x.told(0, 0), 7);
        due("mark", x.told(1, 1), 2);
        due("mark of a cell that was relaid", x.told(0, 1), 0);
        due("plan", x.told(2, 2), 3);
        due("number", x.told(0, 3), 1);
        due("at", x.told(0, 4), 2);
        due("at of who laid", x.told(1, 4), 35);
        due("laid", x.told(1, 6), 1);
        due("kind", x.told(1, 5), 3);
        due("rule", x.count(5), 1);
        due("who came since is gone", x.told(2, 3), BAD);
        due("texts stay", x.count(3), 3);
        due("the tape stays", x.count(4), 1);
        due("sheets stay", x.cell(3, 0, 1), 1);
        due("another comes", x.staff(4, 6, 6), 2);
        due("its kind", x.told(2, 5), 4);
        due("its laid", x.told(2, 6), 0);
        x.set(1, 1, 9);
        due("back once more", x.back(), 2);
        due("the image was kept", x.told(1, 1), 2);
        x.set(1, 1, 8);
        due("a new image", x.image(), 2);
        x.set(1, 1, 7);
        x.back();
        due("the new image holds", x.told(1, 1), 8);
    }

    // Promise 26
    private static void count() {
        BeachIsRelaid x = new BeachIsRelaid();
        x.staff(0, 0, 0);
        x.staff(0, 0, 0);
        plans(x, 1, 1, 2, 3);
        x.set(0, 0, 44);
        read(x, PLAIN);
        read(x, PLAIN);
        x.force(2);
        x.feed(0);
        int[] want = {2, 3, 44, 3, 1, 2};
        for (int what = 0; what < 6; what++) {
            due("count(" + what + ")", x.count(what), want[what]);
        }
        for (int what : new int[] {-1, 6, LEAST, MOST}) {
            due("count(" + what + ")", x.count(what), BAD);
        }
    }

    // Promise 27
    private static void sheet() {
        BeachIsRelaid x = new BeachIsRelaid();
        for (int sort = 0; sort < 3; sort++) {
            due("sheet of sort " + sort, x.sheet(3, sort, 40), 1);
            due("its last item", x.cell(3, 39, 1), 1);
            due("its sort", x.crew(3, sort, 0, 0), 0);
        }
        due("an empty one", x.sheet(3, 0, 0), 1);
        due("it has no item", x.cell(3, 0, 0), OUTSIDE);
        due("a missing one", x.sheet(3, -1, -99), 1);
        due("it is missing", x.cell(3, 0, 0), MISSING);
        due("missing again", x.sheet(3, -1, MOST), 1);
        due("sheet(-1)", x.sheet(-1, 0, 0), BAD);
        due("sheet(4)", x.sheet(4, 0, 0), BAD);
        due("sheet(4) of missing", x.sheet(4, -1, 0), BAD);
        due("sort -2", x.sheet(0, -2, 0), BAD);
        due("sort 3", x.sheet(0, 3, 0), BAD);
        due("sort 3 below 0", x.sheet(0, 3, -1), BAD);
        due("n 41", x.sheet(0, 0, 41), BAD);
        due("n -1", x.sheet(0, 0, -1), TOO_SMALL);
        due("n the least", x.sheet(0, 0, LEAST), TOO_SMALL);
        due("nothing became", x.cell(0, 0, 0), MISSING);
        x.staff(2, 0, 0);
        row(x, 0, 0, 5);
        x.sheet(0, 0, 1);
        due("all 0 again", x.tells(0, 0, 0), NONE);
        row(x, 0, 0, 5);
        x.sheet(0, 0, 41);
        due("a refusal changes nothing", x.tells(0, 0, 0), 0);
    }

    // Promise 28
    private static void cell() {
        BeachIsRelaid x = new BeachIsRelaid();
        due("cell(-1)", x.cell(-1, 0, 0), BAD);
        due("cell(4)", x.cell(4, 0, 0), BAD);
        due("cell of a missing sheet", x.cell(0, -1, 0), MISSING);
        x.staff(2, 0, 0);
        x.set(2, 0, 5);
        int[] more = {256, 65536, 5};
        for (int sort = 0; sort < 3; sort++) {
            x.sheet(0, sort, 1);
            due("cell(0, 1, 0)", x.cell(0, 1, 0), OUTSIDE);
            due("cell(0, -1, 0)", x.cell(0, -1, 0), OUTSIDE);
            due("cell(0, least, 0)", x.cell(0, LEAST, 0), OUTSIDE);
            due("cell(0, 0, 5)", x.cell(0, 0, 5), 1);
            due("it is so", x.tells(0, 0, 0), NONE);
            due("cell of its lowest bits", x.cell(0, 0, 5 + 7 * more[sort]), 1);
            due("they are so in sort " + sort, x.tells(0, 0, 0), sort == 2 ? 0 : NONE);
        }
        x.sheet(0, 1, 1);
        x.cell(0, 0, 256 + 5);
        due("shorts hold 261", x.tells(0, 0, 0), 0);
        x.sheet(0, 2, 1);
        x.cell(0, 0, 65536 + 5);
        due("ints hold 65541", x.tells(0, 0, 0), 0);
    }

    // Promise 29
    private static void copy() {
        BeachIsRelaid x = new BeachIsRelaid();
        x.staff(2, 0, 0);
        for (int c = 0; c < 6; c++) {
            x.set(2, c, c + 1);
        }
        row(x, 0, 1, 1, 2, 3, 4, 5, 6);
        x.sheet(1, 1, 4);
        x.sheet(2, 0, 9);
        due("copy(-1, ..)", x.copy(-1, 0, 0, 0, 0), BAD);
        due("copy(.., 4, ..)", x.copy(0, 0, 4, 0, 0), BAD);
        due("from a missing one", x.copy(3, 0, 0, 0, 0), MISSING);
        due("to a missing one", x.copy(0, 0, 3, 0, -1), MISSING);
        due("unlike", x.copy(0, 0, 2, 0, -1), UNLIKE);
        due("n below 0", x.copy(0, 0, 1, 0, -1), OUTSIDE);
        due("i below 0", x.copy(0, -1, 1, 0, 1), OUTSIDE);
        due("j below 0", x.copy(0, 0, 1, -1, 1), OUTSIDE);
        due("beyond this", x.copy(0, 3, 1, 0, 4), OUTSIDE);
        due("beyond that", x.copy(0, 0, 1, 1, 4), OUTSIDE);
        due("far beyond", x.copy(0, 1, 1, 1, MOST), OUTSIDE);
        due("from far beyond", x.copy(0, MOST, 1, MOST, 1), OUTSIDE);
        due("nothing from the end", x.copy(0, 6, 1, 4, 0), 0);
        due("nothing from behind it", x.copy(0, 7, 1, 0, 0), OUTSIDE);
        due("nothing to behind it", x.copy(0, 0, 1, 5, 0), OUTSIDE);
        due("four", x.copy(0, 0, 1, 0, 4), 4);
        due("as they are there", x.tells(1, 0, 0), NONE);
        due("three onward", x.copy(0, 0, 0, 1, 3), 3);
        due("as they were", x.tells(0, 0, 0), 1);
        row(x, 3, 1, 1, 1, 2, 3, 5, 6);
        for (int c = 0; c < 6; c++) {
            x.set(2, c, new int[] {1, 1, 2, 3, 5, 6}[c]);
        }
        due("onward over themselves", x.tells(0, 0, 0), NONE);
        due("three back", x.copy(0, 2, 0, 1, 3), 3);
        for (int c = 0; c < 6; c++) {
            x.set(2, c, new int[] {1, 2, 3, 5, 5, 6}[c]);
        }
        due("back over themselves", x.tells(0, 0, 0), NONE);
    }

    // Promise 30
    private static void crew() {
        BeachIsRelaid x = new BeachIsRelaid();
        due("crew(-1, ..)", x.crew(-1, 0, 0, 0), BAD);
        due("crew(4, ..)", x.crew(4, 0, 0, 0), BAD);
        due("sort -1", x.crew(0, -1, 0, 0), BAD);
        due("sort 3", x.crew(0, 3, 0, 0), BAD);
        due("n -1", x.crew(0, 0, 0, -1), BAD);
        due("n 5", x.crew(0, 0, 0, 5), BAD);
        due("missing", x.crew(0, 0, 0, 0), MISSING);
        row(x, 0, 2, 7, 0, 1, 2, 5, 9, 35, 9, 9, 9, 3, 4, 5);
        due("unlike", x.crew(0, 1, 0, 1), UNLIKE);
        due("unlike, none", x.crew(0, 0, 0, 0), UNLIKE);
        due("none", x.crew(0, 2, 0, 0), 0);
        due("none from outside", x.crew(0, 2, -5, 0), 0);
        due("two that are good", x.crew(0, 2, 1, 2), 2);
        due("kind of the first", x.told(0, 5), 0);
        due("number of the first", x.told(0, 3), 1);
        due("at of the first", x.told(0, 4), 2);
        due("kind of the second", x.told(1, 5), 5);
        due("number of the second", x.told(1, 3), 9);
        due("at of the second", x.told(1, 4), 35);
        due("a bad one is left out, then outside", x.crew(0, 2, 7, 3), OUTSIDE);
        due("who stood ahead came", x.count(0), 3);
        due("who it is", x.told(2, 5), 3);
        due("half of one", x.crew(0, 2, 11, 1), OUTSIDE);
        due("from below 0", x.crew(0, 2, -1, 1), OUTSIDE);
        due("from far beyond", x.crew(0, 2, MOST, 4), OUTSIDE);
        due("from the least", x.crew(0, 2, LEAST, 4), OUTSIDE);
        due("one has room yet", x.crew(0, 2, 1, 2), 1);
        due("none has room", x.crew(0, 2, 1, 4), 0);
        due("outside all the same", x.crew(0, 2, 4, 4), OUTSIDE);
        due("four are there", x.count(0), 4);
    }

    // Promise 31
    private static void taken() {
        boolean[][] under = {
            {true, false, false, false, false, false},
            {true, true, false, false, false, false},
            {true, false, true, false, false, false},
            {true, true, false, true, false, false},
            {true, false, true, false, true, false},
            {true, false, false, false, false, true},
        };
        for (int kind = 0; kind < 6; kind++) {
            BeachIsRelaid x = new BeachIsRelaid();
            due("taken of none", x.taken(0, 0), MISSING);
            due("bad ahead of it", x.taken(0, 6), BAD);
            x.staff(kind, kind + 2, 0);
            for (int k = 0; k < 6; k++) {
                due("kind " + kind + " taken for " + k, x.taken(0, k), under[kind][k] ? kind + 2 : UNLIKE);
            }
            due("taken for -1", x.taken(0, -1), BAD);
            due("taken for 6", x.taken(0, 6), BAD);
            due("taken of -1", x.taken(-1, 0), MISSING);
            due("taken of 1", x.taken(1, 0), MISSING);
        }
    }
}
