/** Each sentence of the Terms that names a bound, an empty or a full thing, a wrap-around: on it, below it, above it. */
public final class TermsTest {
    private static final long ALL = (1L << 36) - 1;
    private static final String PLAIN = "takes 2 + mark ; lays mark ; leaves 0 ;";

    public static void main(String[] args) {
        cells();
        apart();
        beside();
        wrong();
        takes();
        takesOfStout();
        lays();
        left();
        tokens();
        numbers();
        grammar();
        ends();
        open();
        openTill();
        truth();
        order();
        wraps();
        names();
        firstText();
        tide();
        night();
        nightMinutes();
        reach();
        Due.end();
    }

    private static void good(String text) {
        BeachIsRelaid x = new BeachIsRelaid();
        Due.due("'" + text + "'", Due.read(x, text), 1);
    }

    private static void fault(String text, int place) {
        BeachIsRelaid x = new BeachIsRelaid();
        Due.due("'" + text + "'", Due.read(x, text), -100 - place);
        Due.due(x, 1, "count", 3);
        Due.due(x, 0, "count", 4);
    }

    private static void goodE(String e) {
        good("takes " + e + " ; lays 1 ; leaves 1 ;");
        good("takes 1 ; lays " + e + " ; leaves 1 ;");
        good("takes 1 ; lays 1 ; leaves " + e + ";");
    }

    /** The place is told from the begin of the E. */
    private static void faultE(String e, int place) {
        fault("takes " + e + " ; lays 1 ; leaves 1 ;", 6 + place);
        fault("takes 1 ; lays " + e + " ; leaves 1 ;", 15 + place);
        fault("takes 1 ; lays 1 ; leaves " + e + " ;", 26 + place);
    }

    // ---- 1: the shore

    private static void cells() {
        Due.sentence("1: CELL modulo 6 is the COLUMN, CELL by 6 (cut) the ROW");
        BeachIsRelaid x = Due.by("takes 10 * row + column + 1 ; lays 0 ; leaves 0 ;");
        x.staff(0, 0, 0);
        for (int row = 0; row < 6; row++) {
            for (int column = 0; column < 6; column++) {
                Due.due(x, 10 * row + column + 1, "asks", 0, 6 * row + column, 0);
            }
        }
    }

    private static void apart() {
        Due.sentence("1: two are APART by how many columns and rows there are between them, together");
        for (int a = 0; a < 36; a++) {
            BeachIsRelaid x = new BeachIsRelaid();
            x.staff(0, 0, a);
            for (int row = 0; row < 6; row++) {
                for (int column = 0; column < 6; column++) {
                    int rows = row > a / 6 ? row - a / 6 : a / 6 - row;
                    int columns = column > a % 6 ? column - a % 6 : a % 6 - column;
                    Due.due(x, rows + columns, "asks", 0, 6 * row + column, 2);
                }
            }
        }
    }

    private static void beside() {
        Due.sentence("1: BESIDE: APART by 1: not itself, not APART by 2, not round the edge");
        int[][] besides = {
            {0, 1, 6}, {5, 4, 11}, {6, 0, 7, 12}, {11, 5, 10, 17}, {14, 8, 13, 15, 20}, {30, 24, 31}, {33, 27, 32, 34}, {35, 29, 34}
        };
        for (int[] one : besides) {
            BeachIsRelaid x = Due.by("takes 1 + beside ; lays 0 ; leaves 0 ;");
            x.staff(0, 0, 0);
            x.set(2, one[0], 1);
            for (int c = 0; c < 36; c++) {
                int want = 1;
                for (int i = 1; i < one.length; i++) {
                    want = one[i] == c ? 2 : want;
                }
                Due.due(x, want, "asks", 0, c, 0);
            }
        }
        Due.sentence("1: beside: how many CELLS BESIDE it are WRONG: 0 .. 4");
        BeachIsRelaid x = Due.by("takes 1 + beside ; lays 0 ; leaves 0 ;");
        x.staff(0, 0, 0);
        Due.due(x, 1, "asks", 0, 14, 0);
        Due.plans(x, 1, Due.cells(0, 36));
        int[] corners = {0, 5, 30, 35};
        int[] edges = {1, 4, 6, 11, 24, 29, 31, 34};
        int[] inner = {7, 10, 14, 25, 28};
        for (int c : corners) {
            Due.due(x, 3, "asks", 0, c, 0);
        }
        for (int c : edges) {
            Due.due(x, 4, "asks", 0, c, 0);
        }
        for (int c : inner) {
            Due.due(x, 5, "asks", 0, c, 0);
        }
    }

    private static void wrong() {
        Due.sentence("1: WRONG: CELLS on which another MARK lies than is PLANNED: none, one, all");
        BeachIsRelaid x = new BeachIsRelaid();
        Due.due(x, 0, "wrong", 0);
        x.set(2, 35, 9);
        Due.due(x, 1L << 35, "wrong", 0);
        x.set(1, 35, 8);
        Due.due(x, 1L << 35, "wrong", 0);
        x.set(1, 35, 9);
        Due.due(x, 0, "wrong", 0);
        x.set(2, 35, 8);
        Due.due(x, 1L << 35, "wrong", 0);
        Due.marks(x, 9, Due.cells(0, 36));
        Due.due(x, ALL, "wrong", 0);
        Due.due(x, 36, "count", 1);
    }

    // ---- 1: what each KIND takes and lays

    private static final String[] V = {"0 - 1", "0", "1", "2", "3", "48", "49", "50", "51", "98", "99", "100", "9999"};

    /** What each takes by each of V, where so much is planned. */
    private static void takesBy(int kind, int number, int plan, int... want) {
        for (int i = 0; i < V.length; i++) {
            BeachIsRelaid x = Due.by("takes " + V[i] + " ; lays 0 ; leaves 0 ;");
            x.staff(kind, number, 0);
            x.set(2, 7, plan);
            Due.due("by takes " + V[i] + ", kind " + kind + ", number " + number + ", plan " + plan, x.asks(0, 7, 0), want[i]);
            Due.due(x, want[i] + 2, "asks", 0, 7, 3);
        }
    }

    private static void takes() {
        Due.sentence("1: TAKES: takes 0 .. 99, else the bound; CLERK: v, 1 .. 99");
        int[] clerk = {1, 1, 1, 2, 3, 48, 49, 50, 51, 98, 99, 99, 99};
        takesBy(0, 9, 0, clerk);
        takesBy(0, 0, 9, clerk);
        Due.sentence("1: TAKES: BOY: half (cut) of a CLERK's; 1 .. 99 is laid on the half");
        int[] boy = {1, 1, 1, 1, 1, 24, 24, 25, 25, 49, 49, 49, 49};
        takesBy(1, 9, 0, boy);
        takesBy(1, 0, 9, boy);
        Due.sentence("1: TAKES: MASTER: twice a CLERK's, which has no bound: twice 0 is 1, not 2");
        int[] master = {1, 1, 2, 4, 6, 96, 98, 99, 99, 99, 99, 99, 99};
        takesBy(2, 9, 0, master);
        takesBy(2, 0, 9, master);
        Due.sentence("1: TAKES: LAD: 1 more than a BOY, if m is 0: a BOY's half has no bound, of 1 it is 1, not 2");
        takesBy(3, 0, 0, 1, 1, 1, 2, 2, 25, 25, 26, 26, 50, 50, 50, 50);
        Due.sentence("1: TAKES: LAD: else as a BOY");
        takesBy(3, 0, 1, boy);
        takesBy(3, 9, 9, boy);
        Due.sentence("1: TAKES: GIRL: 1, if m is 9");
        takesBy(4, 0, 9, 1, 1, 1, 1, 1, 1, 1, 1, 1, 1, 1, 1, 1);
        Due.sentence("1: TAKES: GIRL: else as a MASTER");
        takesBy(4, 9, 8, master);
        takesBy(4, 9, 0, master);
    }

    private static void takesOfStout() {
        Due.sentence("1: TAKES: STOUT: NUMBER more than a CLERK, which has no bound: of 0 and 1 it is 1, not 2");
        takesBy(5, 0, 0, 1, 1, 1, 2, 3, 48, 49, 50, 51, 98, 99, 99, 99);
        takesBy(5, 1, 9, 1, 1, 2, 3, 4, 49, 50, 51, 52, 99, 99, 99, 99);
        takesBy(5, 9, 0, 9, 9, 10, 11, 12, 57, 58, 59, 60, 99, 99, 99, 99);
        int[] less = {89, 90, 91};
        int[] want = {98, 99, 99};
        for (int i = 0; i < 3; i++) {
            BeachIsRelaid x = Due.by("takes " + less[i] + " ; lays 0 ; leaves 0 ;");
            x.staff(5, 9, 0);
            Due.due(x, want[i], "asks", 0, 0, 0);
        }
    }

    private static final String[] L = {"0 - 1", "0", "1", "7", "8", "9", "10", "9999"};

    private static void laysBy(int kind, int number, int c, int plan, int... want) {
        for (int i = 0; i < L.length; i++) {
            BeachIsRelaid x = Due.by("takes 1 ; lays " + L[i] + " ; leaves 0 ;");
            x.staff(kind, number, 0);
            x.set(2, c, plan);
            Due.due("by lays " + L[i] + ", kind " + kind + ", number " + number + ", cell " + c + ", plan " + plan,
                x.asks(0, c, 1), want[i]);
            x.relay(0, c);
            Due.due(x, want[i], "told", c, 1);
        }
    }

    private static void lays() {
        int[] clerk = {0, 0, 1, 7, 8, 9, 9, 9};
        int[] oddBoy = {1, 1, 2, 8, 9, 9, 9, 9};
        int[] none = {0, 0, 0, 0, 0, 0, 0, 0};
        Due.sentence("1: LAYS: lays 0 .. 9, else the bound; CLERK: v");
        laysBy(0, 0, 0, 5, clerk);
        laysBy(0, 5, 35, 0, clerk);
        Due.sentence("1: LAYS: BOY: 1 more than a CLERK (9 at most), if the CELL is odd");
        laysBy(1, 0, 1, 0, oddBoy);
        laysBy(1, 5, 35, 9, oddBoy);
        Due.sentence("1: LAYS: BOY: else as a CLERK");
        laysBy(1, 0, 0, 0, clerk);
        laysBy(1, 5, 34, 9, clerk);
        Due.sentence("1: LAYS: MASTER: m; GIRL: as a MASTER");
        for (int kind = 2; kind <= 4; kind += 2) {
            laysBy(kind, 0, 0, 0, none);
            laysBy(kind, 5, 35, 9, 9, 9, 9, 9, 9, 9, 9, 9);
        }
        Due.sentence("1: LAYS: LAD: 0, if the CELL's ROW is NUMBER");
        laysBy(3, 0, 0, 9, none);
        laysBy(3, 0, 5, 9, none);
        laysBy(3, 5, 30, 9, none);
        laysBy(3, 5, 35, 9, none);
        Due.sentence("1: LAYS: LAD: else as a BOY; no ROW is 6 .. 9");
        laysBy(3, 0, 6, 9, clerk);
        laysBy(3, 1, 5, 9, oddBoy);
        laysBy(3, 5, 29, 9, oddBoy);
        laysBy(3, 6, 35, 0, oddBoy);
        laysBy(3, 9, 34, 0, clerk);
        Due.sentence("1: LAYS: STOUT: as a CLERK, if that is m");
        laysBy(5, 0, 0, 9, 0, 0, 0, 0, 0, 9, 9, 9);
        laysBy(5, 9, 35, 1, 0, 0, 1, 0, 0, 0, 0, 0);
        Due.sentence("1: LAYS: STOUT: else 0");
        laysBy(5, 9, 35, 0, none);
        laysBy(5, 0, 1, 2, none);
    }

    private static void left() {
        Due.sentence("1: LEFT: leaves 0 .. 9, else the bound");
        int[] want = {0, 0, 1, 7, 8, 9, 9, 9};
        for (int i = 0; i < L.length; i++) {
            BeachIsRelaid x = Due.by("takes 1 ; lays 0 ; leaves " + L[i] + " ;");
            Due.marks(x, 5, Due.cells(0, 36));
            x.tide(6);
            for (int c = 0; c < 36; c += 5) {
                Due.due(x, want[i], "told", c, 1);
            }
        }
        Due.sentence("1: LEFT of a MARK: 1 less than 0 is 0, 1 more than 9 is 9");
        BeachIsRelaid less = Due.by("takes 1 ; lays 0 ; leaves mark - 1 ;");
        BeachIsRelaid more = Due.by("takes 1 ; lays 0 ; leaves mark + 1 ;");
        for (int v = 0; v <= 9; v++) {
            less.set(1, 20 + v, v);
            more.set(1, 20 + v, v);
        }
        less.tide(6);
        more.tide(6);
        for (int v = 0; v <= 9; v++) {
            Due.due(less, v == 0 ? 0 : v - 1, "told", 20 + v, 1);
            Due.due(more, v == 9 ? 9 : v + 1, "told", 20 + v, 1);
        }
    }

    // ---- 1: texts

    private static void tokens() {
        Due.sentence("1: TOKENS: WORDS a .. z, NUMBERS, SIGNS; blanks are 32 and 10; another byte begins none");
        for (int b = 0; b < 256; b++) {
            boolean letter = b >= 97 && b <= 122;
            boolean blank = b == 32 || b == 10;
            // behind these the text ends too early; all others can't stand there
            boolean more = blank || "+-*<=;".indexOf(b) >= 0;
            fault("takes mark" + (char) b, letter ? 6 : more ? 11 : 10);
        }
        Due.sentence("1: TOKENS: a byte that begins none is a FAULT wherever it is");
        for (char b : new char[] {0, 9, 11, 13, 31, 33, 47, 58, 65, 90, 95, 96, 123, 127, 128, 255}) {
            fault(b + PLAIN, 0);
            fault("takes 2" + b + " ; lays 1 ; leaves 1 ;", 7);
            fault("takes" + b + "2 ; lays 1 ; leaves 1 ;", 5);
            fault("takes 2 +" + b + "1 ; lays 1 ; leaves 1 ;", 9);
            fault(PLAIN + b, 39);
            fault(PLAIN + " " + b, 40);
        }
        Due.sentence("1: TOKENS: the first that can't stand there, not a later byte that begins none");
        fault("lays ? ;", 0);
        fault("takes ; ?", 6);
        fault("takes 12345 ?", 6);
        fault("takes ? 12345", 6);
        Due.sentence("1: TOKENS: each is as long as can be");
        fault("takesmark ; lays 1 ; leaves 1 ;", 0);
        fault("takes markrow ; lays 1 ; leaves 1 ;", 6);
        fault("takes notmark ; lays 1 ; leaves 1 ;", 6);
        fault("takes mark row ; lays 1 ; leaves 1 ;", 11);
        fault("takes 1 2 ; lays 1 ; leaves 1 ;", 8);
        fault("takes 1mark ; lays 1 ; leaves 1 ;", 7);
        fault("takes mark1 ; lays 1 ; leaves 1 ;", 10);
        good("takes 12 ; lays 1 ; leaves 1 ;");
        Due.sentence("1: TOKENS: blanks may stand between, before and behind, or not");
        good("takes2+mark;lays-mark;leaves(0);");
        good(" \n\n takes 2\n+ mark ; \nlays\nmark ;\n\n leaves 0 ;\n \n");
        good("takes 1or 2and 3;lays not(1);leaves 1;");
        Due.sentence("1: FAULT: a WORD that is neither KEY nor NAME");
        for (String word : "takes lays leaves or and not mark row column tide number beside".split(" ")) {
            for (int i = 0; i < word.length(); i++) {
                fault("takes " + word.substring(0, i) + "q" + word.substring(i + 1) + " ;", 6);
            }
        }
        for (String word : "a z mar marks rows columns tid tides numbe numbers besid take lay leave o ands nots".split(" ")) {
            faultE(word, 0);
            faultE("1 + " + word, 4);
            faultE("1 " + word + " 1", 2);
        }
    }

    private static void numbers() {
        Due.sentence("1: NUMBERS: 4 digits at most");
        for (String number : new String[] {"0", "9", "10", "99", "100", "999", "1000", "9999", "0000", "0001"}) {
            goodE(number);
        }
        Due.sentence("1: FAULT: a NUMBER that is too long: its first byte");
        for (String number : new String[] {"00000", "10000", "99999", "12345678901234567890"}) {
            faultE(number, 0);
            faultE("1 + " + number, 4);
            faultE("-" + number, 1);
        }
        Due.sentence("1: NUMBERS are told as they stand");
        value("9999 = 9998 + 1", 1);
        value("1234 = ((1*10+2)*10+3)*10+4", 1);
        value("0099 = 99", 1);
        value("0 = 0000", 1);
    }

    /** Where both are 0 .. 9, takes, lays and leaves all tell the same. */
    private static void value(String e, int want) {
        BeachIsRelaid x = Due.by("takes 1 + (" + e + ") ; lays " + e + " ; leaves " + e + " ;");
        x.staff(0, 0, 0);
        Due.due("takes by " + e, x.asks(0, 0, 0) - 1, want);
        Due.due("lays by " + e, x.asks(0, 0, 1), want);
        x.tide(6);
        Due.due("leaves by " + e, x.told(0, 1), want);
    }

    private static void grammar() {
        Due.sentence("1: TEXT: takes E ; lays E ; leaves E ;");
        good(PLAIN);
        fault("lays 1 ; takes 1 ; leaves 1 ;", 0);
        fault("takes 1 ; takes 1 ; leaves 1 ;", 10);
        fault("takes 1 ; lays 1 ; lays 1 ;", 19);
        fault("takes ; lays 1 ; leaves 1 ;", 6);
        fault("takes 1 ; ; lays 1 ; leaves 1 ;", 10);
        fault("takes 1 lays 1 ; leaves 1 ;", 8);
        fault(PLAIN + " ;", 40);
        fault(PLAIN + " " + PLAIN, 40);
        Due.sentence("1: E: AND { or AND }, AND: NOT { and NOT }");
        goodE("1 or 2 or 3 and 4 and 5 or 6");
        faultE("or 1", 0);
        faultE("and 1", 0);
        faultE("1 or", 5);
        faultE("1 and and 2", 6);
        faultE("1 or and 2", 5);
        Due.sentence("1: NOT: not NOT, or SUM, perhaps < or = and a SUM");
        goodE("not not 1 < 2");
        goodE("1 = 2 and 3 < 4");
        faultE("1 < 2 < 3", 6);
        faultE("1 = 2 < 3", 6);
        faultE("1 < not 2", 4);
        faultE("1 not 2", 2);
        faultE("< 1", 0);
        Due.sentence("1: SUM: TERM { + or - TERM }, TERM: ONE { * ONE }");
        goodE("1 + 2 - 3 * 4 * 5");
        faultE("1 + not 2", 4);
        faultE("1 * not 2", 4);
        faultE("+ 1", 0);
        faultE("* 1", 0);
        faultE("1 + * 2", 4);
        faultE("1 * + 2", 4);
        faultE("1 2", 2);
        Due.sentence("1: ONE: a NUMBER, a NAME, - ONE, ( E )");
        goodE("mark*row*column*tide*number*beside*1*-1*(1)");
        goodE("1 + - 2 - - 3 * - 4");
        faultE("()", 1);
        faultE("(1", 3);
        faultE("1)", 1);
        faultE("(1 + )", 5);
        faultE("- not 1", 2);
        faultE("1(2)", 1);
        for (String key : new String[] {"takes", "lays", "leaves"}) {
            faultE(key, 0);
            faultE("1 + " + key, 4);
            faultE("(" + key + ")", 1);
        }
    }

    private static void ends() {
        Due.sentence("1: FAULT: the text's size, if it ends too early");
        for (int size = 0; size < PLAIN.length(); size++) {
            int place = size;
            for (String word : new String[] {"takes", "mark", "lays", "leaves"}) {
                for (int at = PLAIN.indexOf(word); at >= 0; at = PLAIN.indexOf(word, at + 1)) {
                    // a part of a word is a word that is none
                    place = size > at && size < at + word.length() ? at : place;
                }
            }
            fault(PLAIN.substring(0, size), place);
        }
        fault("takes (1 + 2", 12);
        fault("takes not", 9);
        fault("takes (", 7);
        fault("takes -", 7);
        Due.sentence("1: FAULT: the text's size, blanks behind it too");
        fault(" ", 1);
        fault("\n\n\n", 3);
        fault("takes 1 ; lays 1 ; leaves 1 \n ", 30);
    }

    private static void open() {
        Due.sentence("1: FAULT: a ( while 5 are open");
        goodE("(((((1)))))");
        faultE("((((((1))))))", 5);
        faultE("-(-(-(1)))", 5);
        Due.sentence("1: FAULT: a not while 5 are open");
        goodE("not not not not not 1");
        faultE("not not not not not not 1", 20);
        faultE("(((((not 1)))))", 5);
        faultE("(((not (not 1))))", 8);
        Due.sentence("1: FAULT: a - ahead of a ONE while 5 are open");
        goodE("-----1");
        faultE("------1", 5);
        faultE("(((((-1)))))", 5);
        faultE("not not not not not -1", 20);
        Due.sentence("1: 5 are open together, of whatever signs");
        goodE("not (not (-1))");
        goodE("-(-(-1))");
        goodE("(not (not (1)))");
        faultE("(not (not (-1)))", 11);
        goodE("(-(-(1)))");
        faultE("(-(-(-1)))", 5);
        faultE("not (-(not (1)))", 11);
        faultE("not (-(not -1))", 11);
        Due.sentence("1: a - between TERMS is no - ahead of a ONE");
        goodE("(((((1 - 2)))))");
        goodE("(((((1 - 2 - 3 - 4 - 5 - 6 - 7)))))");
        faultE("(((((1 - -2)))))", 9);
    }

    private static void openTill() {
        Due.sentence("1: a ( is open till its )");
        goodE("(((((1))))) + (((((2))))) * (((((3)))))");
        goodE("((1)+(2)+((3)+(4)+(((5)))))");
        faultE("((((1)+(2)+(((3))))))", 13);
        goodE("((((1))))*-1");
        goodE("((((-1))))");
        faultE("((((-(1)))))", 5);
        Due.sentence("1: a - is open till its ONE ends");
        goodE("-----1 - -----2 * -----3");
        goodE("----(1) + -----1");
        goodE("---(-1 + 2) + ---(-1)");
        faultE("----(-1 + 2)", 5);
        faultE("-----(1)", 5);
        faultE("---(--1)", 5);
        goodE("-1+-1+-1+-1+-1+-1");
        Due.sentence("1: a not is open till its NOT ends, behind < and =, too");
        goodE("not not not not not 1 and not not not not not 2 or not not not not not 3");
        faultE("not not not not not 1 = - 1", 24);
        faultE("not not not not not 1 < ( 1 )", 24);
        faultE("not not not not not 1 + ( 1 )", 24);
        goodE("not not not not not 1 = 2 and - 1");
        goodE("not not not not not 1 or ( 1 )");
        goodE("(not not not not 1) + (not not not not 2) + -----3");
        goodE("not 1 and not 1 and not 1 and not 1 and not 1 and not 1");
    }

    private static void truth() {
        Due.sentence("1: of or, and, not, <, = an E is 1 or 0 (what is not 0 is true)");
        value("7 or 0", 1);
        value("0 or 7", 1);
        value("7 or 7", 1);
        value("0 or 0", 0);
        value("0 - 1 or 0", 1);
        value("7 and 7", 1);
        value("0 - 1 and 5", 1);
        value("7 and 0", 0);
        value("0 and 7", 0);
        value("0 and 0", 0);
        value("not 0", 1);
        value("not 1", 0);
        value("not 7", 0);
        value("not - 1", 0);
        value("not not 7", 1);
        value("2 < 3", 1);
        value("3 < 3", 0);
        value("4 < 3", 0);
        value("2 = 3", 0);
        value("3 = 3", 1);
        value("4 = 3", 0);
        Due.sentence("1: of all others an E is what it is");
        value("7", 7);
        value("( 7 )", 7);
        value("- - 7", 7);
        value("3 + 4", 7);
        value("9 - 2", 7);
        value("4 - 9 + 9", 4);
        value("2 * 4", 8);
        value("- 2 * - 4", 8);
    }

    private static void order() {
        Due.sentence("1: E, AND, NOT, SUM, TERM, ONE: each binds closer; left ahead of right");
        value("9 - 5 - 3", 1);
        value("9 - ( 5 - 3 )", 7);
        value("1 + 2 * 3", 7);
        value("( 1 + 2 ) * 3", 9);
        value("2 * 3 + 1", 7);
        value("- 2 + 5", 3);
        value("- ( 2 - 5 )", 3);
        value("- 2 * 3 + 9", 3);
        value("1 + 1 = 2", 1);
        value("1 + ( 1 = 2 )", 1);
        value("not 1 = 0", 1);
        value("( not 1 ) = 0", 1);
        value("not 2 = 1", 1);
        value("( not 2 ) = 1", 0);
        value("not 0 + 1", 0);
        value("( not 0 ) + 1", 2);
        value("not 0 and 0", 0);
        value("not ( 0 and 0 )", 1);
        value("not 1 or 1", 1);
        value("not ( 1 or 1 )", 0);
        value("1 or 1 and 0", 1);
        value("( 1 or 1 ) and 0", 0);
        value("0 and 0 or 1", 1);
        value("2 < 3 and 3 < 2", 0);
    }

    private static void wraps() {
        // 8192 * 8192 * 32 is 2 ^ 31
        String least = "8192 * 8192 * 32";
        Due.sentence("1: an E is an int (32 bits, wrapping): *");
        value(least + " < 0", 1);
        value("8192 * 8192 * 31 < 0", 0);
        value("8192 * 8192 * 64 = 0", 1);
        value("8192 * 8192 * 64 + 5", 5);
        value("- 8192 * 8192 * 32 < 0", 1);
        BeachIsRelaid cube = Due.by("takes 50 + 9999*9999*9999 + 9999*9999*10 + 9999*2755 + 2714 ; lays 0 ; leaves 0 ;");
        cube.staff(0, 0, 0);
        Due.due(cube, 50, "asks", 0, 0, 0);
        Due.sentence("1: an E is an int, wrapping: +");
        value("0 < " + least + " - 1", 1);
        value(least + " - 1 + 1 < 0", 1);
        value(least + " + " + least, 0);
        Due.sentence("1: an E is an int, wrapping: - between TERMS");
        value(least + " - 1 < 0", 0);
        value("0 - " + least + " < 0", 1);
        value("0 - " + least + " - 1 < 0", 0);
        Due.sentence("1: an E is an int, wrapping: - ahead of a ONE");
        value("- ( " + least + " ) < 0", 1);
        value("- ( " + least + " ) = " + least, 1);
        value("- ( " + least + " - 1 ) < 0", 1);
        Due.sentence("1: < tells the lesser int, however far they are from each other");
        value(least + " < 1", 1);
        value("1 < " + least, 0);
        value(least + " - 1 < - 1", 0);
        value("- 1 < " + least + " - 1", 1);
        Due.sentence("1: what comes out wraps ahead of the bound");
        BeachIsRelaid x = Due.by("takes 8192*8192*32 ; lays 8192*8192*32-1 ; leaves 8192*8192*64+3 ;");
        x.staff(0, 0, 0);
        Due.due(x, 1, "asks", 0, 0, 0);
        Due.due(x, 9, "asks", 0, 0, 1);
        x.tide(1);
        Due.due(x, 3, "told", 35, 1);
    }

    private static void names() {
        Due.sentence("1: mark: of takes and lays PLAN (0 .. 9), of leaves the MARK that lies there (0 .. 9)");
        BeachIsRelaid x = Due.by("takes mark + 1 ; lays mark ; leaves 9 - mark ;");
        x.staff(0, 0, 0);
        int[][] planAndMark = {{0, 9}, {9, 0}, {4, 6}};
        for (int i = 0; i < 3; i++) {
            x.set(2, 33 + i, planAndMark[i][0]);
            x.set(1, 33 + i, planAndMark[i][1]);
            Due.due(x, planAndMark[i][0] + 1, "asks", 0, 33 + i, 0);
            Due.due(x, planAndMark[i][0], "asks", 0, 33 + i, 1);
        }
        x.tide(1);
        Due.due(x, 0, "told", 33, 1);
        Due.due(x, 9, "told", 34, 1);
        Due.due(x, 3, "told", 35, 1);
        Due.sentence("1: number: NUMBER (0 .. 9), of leaves 0");
        BeachIsRelaid n = Due.by("takes number + 1 ; lays number ; leaves number + 4 ;");
        for (int number = 0; number <= 9; number += 3) {
            n.staff(0, number, 0);
            Due.due(n, number + 1, "asks", number / 3, 0, 0);
            Due.due(n, number, "asks", number / 3, 0, 1);
        }
        n.tide(6);
        Due.due(n, 4, "told", 0, 1);
        Due.sentence("1: tide: TIDE (0 .. 999)");
        BeachIsRelaid t = Due.by("takes tide - 900 ; lays tide - 990 ; leaves tide ;");
        t.staff(0, 0, 0);
        int[] tides = {0, 900, 901, 990, 998, 999};
        int[] takes = {1, 1, 1, 90, 98, 99};
        int[] lays = {0, 0, 0, 0, 8, 9};
        for (int i = 0; i < tides.length; i++) {
            t.set(0, 0, tides[i]);
            Due.due(t, takes[i], "asks", 0, 0, 0);
            Due.due(t, lays[i], "asks", 0, 0, 1);
        }
    }

    private static void firstText() {
        Due.sentence("1: TEXT 0, at first THE RULE, is: takes 2 + mark ; lays mark ; leaves 0 ;");
        BeachIsRelaid x = new BeachIsRelaid();
        x.staff(0, 0, 0);
        Due.due(x, 0, "count", 5);
        for (int v = 0; v <= 9; v++) {
            x.set(2, v, v);
            x.set(1, 26 + v, 9 - v);
            Due.due(x, 2 + v, "asks", 0, v, 0);
            Due.due(x, v, "asks", 0, v, 1);
        }
        x.tide(6);
        for (int c = 26; c < 36; c++) {
            Due.due(x, 0, "told", c, 1);
        }
    }

    // ---- 2

    private static void tide() {
        Due.sentence("2: a TIDE of reach r: on each CELL of the lowest r ROWS there is what is LEFT: r is 0 .. 6");
        for (int reach = 0; reach <= 6; reach++) {
            BeachIsRelaid x = Due.by("takes 1 ; lays 0 ; leaves 7 ;");
            x.tide(reach);
            for (int c = 0; c < 36; c++) {
                Due.due(x, c >= 36 - 6 * reach ? 7 : 0, "told", c, 1);
            }
        }
        Due.sentence("2: all told ahead: TIDE as ahead, beside as ahead");
        BeachIsRelaid x = Due.by("takes 1 ; lays 0 ; leaves beside * 3 + tide ;");
        x.set(0, 0, 1);
        Due.plans(x, 4, 28, 34);
        x.tide(2);
        int[] left = {1, 1, 1, 4, 4, 4, 1, 1, 1, 4, 4, 4};
        for (int i = 0; i < 12; i++) {
            Due.due(x, left[i], "told", 24 + i, 1);
        }
        Due.due(x, 0, "told", 22, 1);
        Due.sentence("2: TIDE is 1 more, of reach 0, too; the last is 999");
        BeachIsRelaid y = new BeachIsRelaid();
        y.tide(0);
        Due.due(y, 1, "told", 0, 0);
        y.tide(6);
        Due.due(y, 2, "told", 0, 0);
        y.set(0, 0, 998);
        y.tide(0);
        Due.due(y, 999, "told", 0, 0);
    }

    private static void night() {
        Due.sentence("2: a NIGHT: the WRONG CELL that is least APART, 0 on");
        BeachIsRelaid x = new BeachIsRelaid();
        x.staff(0, 0, 14);
        Due.plans(x, 9, 14, 12);
        Due.plans(x, 1, 35);
        Due.due(x, 14, "run", 0, 11, 3);
        Due.due(x, 12, "run", 0, 24, 3);
        Due.sentence("2: a NIGHT: of like ones the first");
        for (int i = 0; i < 4; i++) {
            int[] beside = {8, 13, 15, 20};
            BeachIsRelaid y = new BeachIsRelaid();
            y.staff(0, 0, 14);
            for (int j = i; j < 4; j++) {
                y.set(2, beside[j], 1);
            }
            Due.due(y, beside[i], "run", 0, 4, 3);
        }
        Due.sentence("2: a NIGHT: without those RELAID in this NIGHT, though WRONG still");
        BeachIsRelaid z = Due.by("takes 1 ; lays 0 ; leaves 0 ;");
        z.staff(0, 0, 0);
        Due.plans(z, 1, 0);
        Due.due(z, 1, "run", 0, 999, 1);
        Due.due(z, 1, "run", 0, 999, 0);
        Due.plans(z, 1, Due.cells(0, 36));
        Due.due(z, 36, "run", 0, 999, 1);
        Due.due(z, 36, "run", 0, 999, 2);
        Due.due(z, 36, "night", 0, 999);
        Due.due(z, 36, "told", 0, 6);
        Due.sentence("2: a NIGHT: TAKES of the next by what lies there then");
        BeachIsRelaid w = Due.by("takes 1 + beside * 10 ; lays mark ; leaves 0 ;");
        w.staff(0, 0, 0);
        Due.plans(w, 1, 0, 1);
        Due.due(w, 11 + 1 + 1, "run", 0, 999, 0);
    }

    private static void nightMinutes() {
        Due.sentence("2: a NIGHT: if there are minutes enough for it: as many, one less, one more");
        BeachIsRelaid x = new BeachIsRelaid();
        x.staff(0, 0, 0);
        Due.plans(x, 3, 2, 5);
        int[] minutes = {0, 6, 7, 8, 14, 15, 16, 999};
        int[] relaid = {0, 0, 1, 1, 1, 2, 2, 2};
        int[] spent = {0, 0, 7, 7, 7, 15, 15, 15};
        for (int i = 0; i < minutes.length; i++) {
            Due.due(x, relaid[i], "run", 0, minutes[i], 1);
            Due.due(x, spent[i], "run", 0, minutes[i], 0);
        }
        Due.sentence("2: a NIGHT: else it is over, though another would be through sooner");
        x.set(2, 2, 9);
        x.set(2, 5, 1);
        Due.due(x, 0, "run", 0, 12, 1);
        Due.due(x, 1, "run", 0, 13, 1);
        Due.sentence("2: a NIGHT of 999 minutes: ten CELLS of 99 minutes, 1 APART each");
        BeachIsRelaid y = Due.by("takes 99 ; lays mark ; leaves 0 ;");
        y.staff(0, 0, 0);
        Due.plans(y, 1, 0, 1, 2, 3, 4, 5, 11, 10, 9, 8, 7);
        Due.due(y, 10, "run", 0, 999, 1);
        Due.due(y, 999, "run", 0, 999, 0);
        Due.due(y, 9, "run", 0, 998, 1);
        Due.due(y, 899, "run", 0, 998, 0);
        Due.due(y, 10, "night", 0, 999);
    }

    private static void reach() {
        Due.sentence("2: DRAWN by a SEED: reach (z >>> 9) % 7, z being SEED * 1103515245 + 12345 (an int)");
        BeachIsRelaid x = new BeachIsRelaid();
        Due.marks(x, 1, Due.cells(0, 36));
        Due.plans(x, 1, Due.cells(0, 36));
        int[] seeds = {7, 5, 2, 0, 4, 3, 1, -1, -2, Due.MOST, Due.MOST - 1, Due.LEAST, Due.LEAST + 1, 6, 8};
        int[] reaches = {0, 1, 2, 3, 4, 5, 6, 3, 0, 1, 2, 5, 1, 4, 6};
        for (int i = 0; i < seeds.length; i++) {
            Due.due(x, 6 * reaches[i], "drawn", seeds[i]);
        }
        Due.sentence("2: IN m seeds: SEED and each 1 more (an int): behind the most comes the least");
        // by the most the reach is 1, by the least 5: 6 and 30 WRONG
        Due.due(x, 1, "chance", Due.MOST, 1, 6, 0);
        Due.due(x, 0, "chance", Due.MOST, 1, 7, 0);
        Due.due(x, 1, "chance", Due.MOST, 2, 7, 0);
        Due.due(x, 2, "chance", Due.MOST, 2, 7, 1);
        Due.due(x, 1, "chance", Due.MOST, 2, 30, 0);
        Due.due(x, 0, "chance", Due.MOST, 2, 31, 0);
        // of the twenty from the most less 7 on, two are of reach 6
        Due.due(x, 1, "chance", Due.MOST - 7, 20, 36, 0);
        Due.due(x, 10, "chance", Due.MOST - 7, 20, 36, 1);
    }
}
