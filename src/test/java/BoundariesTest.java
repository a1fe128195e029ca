/** Promise by promise: what is answered, and what becomes of it, on the bounds, of the empty and of the full. */
public final class BoundariesTest {
    private static final int NONE = Due.NONE, BAD = Due.BAD, STATE = Due.STATE, FULL = Due.FULL;
    private static final int MISSING = Due.MISSING, OUTSIDE = Due.OUTSIDE, UNLIKE = Due.UNLIKE;
    private static final long NO = Due.NO, ALL = (1L << 36) - 1;
    private static final String PLAIN = "takes 2 + mark ; lays mark ; leaves 0 ;";

    public static void main(String[] args) {
        newObject();
        setAndTold();
        staff();
        asks();
        feed();
        text();
        textOf160();
        force();
        tide();
        relay();
        night();
        run();
        wrongCells();
        trueCells();
        shore();
        heaps();
        worst();
        tour();
        soonest();
        soonestOfSeven();
        together();
        togetherLikeOnes();
        nearest();
        share();
        tellsFirst();
        tellsKindsAndNumbers();
        tellsTides();
        tellsTexts();
        tellsReaches();
        film();
        drawn();
        chance();
        image();
        back();
        count();
        sheet();
        cell();
        copy();
        crew();
        crewOutside();
        taken();
        Due.allOf(31);
        Due.end();
    }

    private static BeachIsRelaid clerkAt(int c) {
        BeachIsRelaid x = new BeachIsRelaid();
        x.staff(0, 0, c);
        return x;
    }

    private static void newObject() {
        Due.sentence("1: no STAFF, all flat, and planned so");
        BeachIsRelaid x = new BeachIsRelaid();
        for (int c = 0; c < 36; c++) {
            Due.due(x, 0, "told", c, 1);
            Due.due(x, 0, "told", c, 2);
        }
        int[] counts = {0, 0, 0, 1, 0, 0};
        for (int what = 0; what < 6; what++) {
            Due.due(x, counts[what], "count", what);
        }
        Due.due(x, BAD, "told", 0, 5);
        Due.due(x, STATE, "back");
        Due.sentence("1: the SHEETS are missing at first");
        for (int s = 0; s < 4; s++) {
            Due.due(x, MISSING, "cell", s, 0, 0);
        }
    }

    private static void setAndTold() {
        Due.sentence("2: TIDE becomes 0 .. 999: what it was");
        BeachIsRelaid x = new BeachIsRelaid();
        Due.due(x, 0, "set", 0, 0, 999);
        Due.due(x, 999, "told", 0, 0);
        Due.due(x, 999, "set", 0, 0, 0);
        Due.due(x, 0, "set", 0, 0, 1);
        Due.due(x, 1, "told", 0, 0);
        Due.sentence("2: the MARK, the PLAN of the first and the last CELL become 0 .. 9: what it was, no other");
        for (int what = 1; what <= 2; what++) {
            Due.due(x, 0, "set", what, 0, 9);
            Due.due(x, 9, "set", what, 0, 7 + what);
            Due.due(x, 0, "set", what, 35, 9);
            Due.due(x, 9, "set", what, 35, what);
            Due.due(x, 7 + what, "set", what, 0, 5 + what);
        }
        for (int c = 0; c < 36; c++) {
            Due.due(x, c == 0 ? 6 : c == 35 ? 1 : 0, "told", c, 1);
            Due.due(x, c == 0 ? 7 : c == 35 ? 2 : 0, "told", c, 2);
        }
        Due.sentence("2: NUMBER and where one stands, of each of four: what it was, no other's");
        for (int one = 0; one < 4; one++) {
            x.staff(one, 5, 20);
        }
        for (int one = 3; one >= 0; one--) {
            Due.due(x, 5, "set", 3, one, one * 3);
            Due.due(x, 20, "set", 4, one, 35 - one * 11);
        }
        Due.sentence("4: TIDE, MARK, PLAN, NUMBER, where one stands, KIND, LAID, as they became");
        Due.due(x, 1, "told", 0, 0);
        Due.due(x, 6, "told", 0, 1);
        Due.due(x, 7, "told", 0, 2);
        for (int one = 0; one < 4; one++) {
            Due.due(x, one * 3, "told", one, 3);
            Due.due(x, 35 - one * 11, "told", one, 4);
            Due.due(x, one, "told", one, 5);
            Due.due(x, 0, "told", one, 6);
        }
        Due.due(x, 0, "set", 3, 0, 9);
        Due.due(x, 9, "told", 0, 3);
        Due.due(x, 35, "set", 4, 0, 0);
        Due.due(x, 0, "told", 0, 4);
    }

    private static void staff() {
        Due.sentence("3: one of STAFF: the number: 0 .. 3, then FULL");
        BeachIsRelaid x = new BeachIsRelaid();
        int[][] all = {{0, 0, 0}, {5, 9, 35}, {1, 4, 30}, {4, 8, 5}};
        for (int one = 0; one < 4; one++) {
            Due.due(x, one, "count", 0);
            Due.due(x, one, "staff", all[one][0], all[one][1], all[one][2]);
        }
        Due.due(x, FULL, "staff", 0, 0, 0);
        Due.due(x, 4, "count", 0);
        Due.sentence("3: of KIND, NUMBER, CELL that were told; none LAID");
        for (int one = 0; one < 4; one++) {
            Due.due(x, all[one][0], "told", one, 5);
            Due.due(x, all[one][1], "told", one, 3);
            Due.due(x, all[one][2], "told", one, 4);
            Due.due(x, 0, "told", one, 6);
        }
    }

    private static void asks() {
        Due.sentence("5: TAKES 1 .. 99, LAYS 0 .. 9, APART 0 .. 10, minutes 1 .. 109");
        BeachIsRelaid x = Due.by("takes mark * 11 ; lays mark ; leaves 0 ;");
        x.staff(0, 0, 35);
        x.set(2, 0, 9);
        int[] far = {99, 9, 10, 109};
        int[] here = {1, 0, 0, 1};
        for (int what = 0; what < 4; what++) {
            Due.due(x, far[what], "asks", 0, 0, what);
            Due.due(x, here[what], "asks", 0, 35, what);
        }
        Due.sentence("5: of each of four");
        BeachIsRelaid y = new BeachIsRelaid();
        int[] kinds = {0, 1, 2, 5};
        int[] takes = {7, 3, 14, 16};
        y.set(2, 7, 5);
        for (int one = 0; one < 4; one++) {
            y.staff(kinds[one], 9, one);
            Due.due(y, takes[one], "asks", one, 7, 0);
            Due.due(y, one == 1 ? 6 : 5, "asks", one, 7, 1);
            Due.due(y, new int[] {2, 1, 2, 3}[one], "asks", one, 7, 2);
        }
    }

    private static void feed() {
        Due.sentence("6: how many bytes THE TAPE has: 1 .. 160, then FULL");
        BeachIsRelaid x = new BeachIsRelaid();
        for (int i = 1; i <= 160; i++) {
            Due.due(x, i, "feed", i == 1 ? 0 : i == 160 ? 255 : 32);
        }
        Due.due(x, FULL, "feed", 32);
        Due.due(x, 160, "count", 4);
        Due.sentence("6: behind a TEXT and behind a FAULT it begins anew");
        Due.due(x, -100, "text");
        Due.due(x, 1, "feed", 't');
        Due.due(x, -100, "text");
        Due.due("a text", Due.read(x, PLAIN), 1);
        Due.due(x, 1, "feed", 0);
    }

    private static void text() {
        Due.sentence("7: an empty TAPE: -100 less 0");
        BeachIsRelaid x = new BeachIsRelaid();
        Due.due(x, -100, "text");
        Due.due(x, 0, "count", 4);
        Due.due(x, 1, "count", 3);
        Due.sentence("7: its number: 1 .. 5, then FULL; a FAULT takes no number");
        for (int i = 1; i <= 5; i++) {
            Due.due("a fault", Due.read(x, "takes ;"), -106);
            Due.due("text " + i, Due.read(x, "takes " + 10 * i + " ; lays " + i + " ; leaves 0 ;"), i);
            Due.due(x, 0, "count", 4);
            Due.due(x, i + 1, "count", 3);
        }
        Due.due("one more", Due.read(x, PLAIN), FULL);
        Due.due(x, 6, "count", 3);
        Due.sentence("7: FULL, ahead of a FAULT, too: THE TAPE stays");
        Due.due(x, 39, "count", 4);
        x.feed('?');
        Due.due(x, FULL, "text");
        Due.due(x, 40, "count", 4);
        Due.due(x, 41, "feed", '?');
        Due.sentence("7: by a FAULT nothing stays open");
        BeachIsRelaid z = new BeachIsRelaid();
        for (int i = 0; i < 3; i++) {
            Due.due("a fault with five open", Due.read(z, "takes ((((("), -111);
            Due.due("a fault of a sixth", Due.read(z, "takes not -((((1"), -114);
        }
        Due.due("five open", Due.read(z, "takes (((((1))))) ; lays -----1 ; leaves not not not not not 1 ;"), 1);
        Due.due("five open again", Due.read(z, "takes not(not(-1));lays 1;leaves 1;"), 2);
        Due.sentence("7: FULL with an empty TAPE");
        BeachIsRelaid y = new BeachIsRelaid();
        for (int i = 1; i <= 5; i++) {
            Due.read(y, "takes 1;lays 1;leaves 1;");
        }
        Due.due(y, FULL, "text");
        Due.due(y, 0, "count", 4);
        Due.sentence("7: a TEXT is not THE RULE by that; each is as it was read");
        Due.due(x, 0, "count", 5);
        x.staff(0, 0, 0);
        for (int i = 1; i <= 5; i++) {
            x.force(i);
            Due.due(x, 10 * i, "asks", 0, 0, 0);
            Due.due(x, i, "asks", 0, 0, 1);
        }
    }

    private static String filled(String begin, int size) {
        StringBuilder text = new StringBuilder(begin);
        while (text.length() < size) {
            text.append(text.length() % 2 == 0 ? ' ' : '\n');
        }
        return text.toString();
    }

    private static void textOf160() {
        Due.sentence("7: a TEXT of 160 bytes");
        Due.due("blanks behind", Due.read(new BeachIsRelaid(), filled(PLAIN, 160)), 1);
        Due.due("blanks ahead", Due.read(new BeachIsRelaid(), filled("", 121) + PLAIN), 1);
        Due.due("blanks within", Due.read(new BeachIsRelaid(), filled("takes 2", 131) + "+ mark ; lays 1 ; leaves 0 ; "), 1);
        String much = "takes 1" + "+1".repeat(68) + ";lays 2;leaves 0;";
        Due.due("bytes", much.length(), 160);
        BeachIsRelaid x = Due.by(much);
        x.staff(0, 0, 0);
        Due.due(x, 69, "asks", 0, 0, 0);
        Due.due(x, 2, "asks", 0, 0, 1);
        Due.sentence("7: FAULTS of a TAPE of 160 bytes: the last byte, the text's size");
        fault(filled("takes 1 ; lays 1 ; leaves 1 ", 159) + "?", 159);
        fault(filled("takes 1 ; lays 1 ; leaves 1 ", 159) + ";", NONE);
        fault(filled("takes 1 ; lays 1 ; leaves 1 ", 160), 160);
        fault(filled("", 160), 160);
        fault(filled("", 159) + "x", 159);
        fault(";".repeat(160), 0);
        fault("(".repeat(160), 0);
        fault("takes " + "(".repeat(154), 11);
        fault("takes " + "-".repeat(154), 11);
        fault("takes " + "1+".repeat(77), 160);
        fault("takes " + "not ".repeat(38) + "1 ", 26);
        fault("9".repeat(160), 0);
        fault("a".repeat(160), 0);
        Due.sentence("7: FAULTS of a TAPE of 159 bytes");
        fault(filled("takes 1 ; lays 1 ; leaves 1 ", 159), 159);
        fault(filled("", 158) + "x", 158);
        Due.due("blanks behind", Due.read(new BeachIsRelaid(), filled(PLAIN, 159)), 1);
    }

    private static void fault(String text, int place) {
        BeachIsRelaid x = new BeachIsRelaid();
        Due.due("'" + text + "'", Due.read(x, text), place == NONE ? 1 : -100 - place);
        Due.due(x, 0, "count", 4);
    }

    private static void force() {
        Due.sentence("8: TEXT 0 .. 5 is THE RULE: which was");
        BeachIsRelaid x = new BeachIsRelaid();
        Due.due(x, 0, "force", 0);
        for (int i = 1; i <= 5; i++) {
            Due.due(x, BAD, "force", i);
            Due.read(x, "takes " + i + " ; lays 1 ; leaves 1 ;");
            Due.due(x, i - 1, "force", i);
            Due.due(x, i, "count", 5);
        }
        Due.due(x, BAD, "force", 6);
        Due.due(x, 5, "force", 5);
        Due.due(x, 5, "force", 0);
        Due.due(x, 0, "count", 5);
    }

    private static void tide() {
        Due.sentence("9: how many CELLS are WRONG then: 0 .. 36, by reach 0 .. 6");
        for (int reach = 0; reach <= 6; reach++) {
            BeachIsRelaid x = new BeachIsRelaid();
            Due.marks(x, 1, Due.cells(0, 36));
            Due.plans(x, 1, Due.cells(0, 36));
            Due.due(x, 6 * reach, "tide", reach);
            Due.plans(x, 0, Due.cells(0, 36));
            Due.due(x, 36 - 6 * reach, "count", 1);
            Due.due(x, 0, "tide", 6);
        }
        Due.sentence("9: STATE: TIDE is 999; at 998 the last one comes");
        BeachIsRelaid x = new BeachIsRelaid();
        Due.marks(x, 1, 35);
        x.set(0, 0, 998);
        Due.due(x, 0, "tide", 6);
        Due.due(x, 999, "count", 2);
        Due.due(x, 0, "told", 35, 1);
        x.set(1, 35, 1);
        Due.due(x, STATE, "tide", 6);
        Due.due(x, STATE, "tide", 0);
        Due.due(x, 1, "told", 35, 1);
        Due.due(x, 999, "count", 2);
        x.set(0, 0, 997);
        Due.due(x, 1, "tide", 0);
        Due.due(x, 998, "count", 2);
    }

    private static void relay() {
        Due.sentence("10: minutes: 1, where one stands and TAKES 1; 109, from corner to corner and TAKES 99");
        BeachIsRelaid x = Due.by("takes mark * 11 ; lays mark ; leaves 0 ;");
        x.staff(0, 0, 35);
        x.set(2, 0, 9);
        Due.due(x, 1, "relay", 0, 35);
        Due.due(x, 109, "relay", 0, 0);
        Due.due(x, 0, "told", 0, 4);
        Due.due(x, 9, "told", 0, 1);
        Due.sentence("10: any CELL, WRONG or not: what one LAYS is its MARK");
        BeachIsRelaid y = new BeachIsRelaid();
        y.staff(1, 0, 0);
        Due.due(y, 0, "count", 1);
        Due.due(y, 2, "relay", 0, 1);
        Due.due(y, 1, "told", 1, 1);
        Due.due(y, 1, "count", 1);
        Due.sentence("10: LAID is 1 more, 9999 at most");
        BeachIsRelaid z = Due.by("takes 1 ; lays 0 ; leaves 0 ;");
        z.staff(0, 0, 0);
        z.staff(0, 0, 0);
        Due.plans(z, 1, Due.cells(0, 36));
        for (int i = 0; i < 277; i++) {
            z.night(1, 999);
        }
        Due.due(z, 277 * 36, "told", 1, 6);
        for (int i = 277 * 36; i < 9997; i++) {
            z.relay(1, 0);
        }
        Due.due(z, 9997, "told", 1, 6);
        Due.due(z, 1, "relay", 1, 0);
        Due.due(z, 9998, "told", 1, 6);
        Due.due(z, 1, "relay", 1, 0);
        Due.due(z, 9999, "told", 1, 6);
        Due.due(z, 1, "relay", 1, 0);
        Due.due(z, 9999, "told", 1, 6);
        Due.due(z, 36, "night", 1, 999);
        Due.due(z, 9999, "told", 1, 6);
        Due.due(z, 0, "told", 0, 6);
    }

    private static void night() {
        Due.sentence("11: how many CELLS are RELAID: none is WRONG: none, one stays");
        BeachIsRelaid x = clerkAt(21);
        Due.due(x, 0, "night", 0, 0);
        Due.due(x, 0, "night", 0, 999);
        Due.due(x, 21, "told", 0, 4);
        Due.due(x, 0, "told", 0, 6);
        Due.sentence("11: of 0 minutes: none, though one stands on a WRONG CELL");
        BeachIsRelaid y = Due.by("takes 1 ; lays mark ; leaves 0 ;");
        y.staff(0, 0, 21);
        y.set(2, 21, 1);
        Due.due(y, 0, "night", 0, 0);
        Due.due(y, 1, "count", 1);
        Due.due(y, 1, "night", 0, 1);
        Due.due(y, 0, "count", 1);
        Due.sentence("11: all 36 are WRONG");
        Due.plans(y, 3, Due.cells(0, 36));
        y.set(4, 0, 0);
        Due.due(y, 36, "night", 0, 999);
        Due.due(y, 0, "count", 1);
        Due.due(y, 37, "told", 0, 6);
        Due.sentence("11: of each of four");
        BeachIsRelaid z = new BeachIsRelaid();
        for (int one = 0; one < 4; one++) {
            z.staff(2, 0, 9 * one);
        }
        for (int one = 3; one >= 0; one--) {
            z.set(2, 9 * one, 1);
            Due.due(z, 1, "night", one, 6);
            Due.due(z, 1, "told", one, 6);
        }
    }

    private static void run() {
        Due.sentence("12: none is WRONG: 0 minutes, 0 CELLS, 0 WRONG, where one stands");
        BeachIsRelaid x = clerkAt(35);
        int[] still = {0, 0, 0, 35};
        for (int what = 0; what < 4; what++) {
            Due.due(x, still[what], "run", 0, 0, what);
            Due.due(x, still[what], "run", 0, 999, what);
        }
        Due.sentence("12: of 0 minutes: nothing; of as many as are needed: all");
        BeachIsRelaid y = Due.by("takes 1 ; lays mark ; leaves 0 ;");
        y.staff(0, 0, 0);
        Due.plans(y, 1, Due.cells(0, 36));
        int[] nothing = {0, 0, 36, 0};
        int[] all = {36 + 35, 36, 0, 30};
        int[] less = {36 + 35 - 2, 35, 1, 31};
        // to the right and back, row by row: the first of like ones is never behind
        for (int what = 0; what < 4; what++) {
            Due.due(y, nothing[what], "run", 0, 0, what);
            Due.due(y, all[what], "run", 0, 71, what);
            Due.due(y, all[what], "run", 0, 999, what);
            Due.due(y, less[what], "run", 0, 70, what);
        }
        Due.sentence("12: it is in thought: a NIGHT, truly, is the same behind it");
        Due.due(y, 35, "night", 0, 70);
        Due.due(y, 31, "told", 0, 4);
        Due.due(y, 1, "count", 1);
    }

    private static void wrongCells() {
        Due.sentence("13: WRONG (bits): none, the first, the last, all");
        BeachIsRelaid x = new BeachIsRelaid();
        Due.due(x, 0, "wrong", 0);
        x.set(2, 0, 1);
        Due.due(x, 1, "wrong", 0);
        x.set(2, 35, 1);
        Due.due(x, 1 | 1L << 35, "wrong", 0);
        Due.sentence("13: in a heap with a CELL, 0 (10) and 35 (45)");
        Due.due(x, 1, "wrong", 10);
        Due.due(x, 1L << 35, "wrong", 45);
        Due.sentence("13: none: 0: the CELL is not WRONG itself");
        Due.due(x, 0, "wrong", 11);
        Due.due(x, 0, "wrong", 44);
        Due.due(new BeachIsRelaid(), 0, "wrong", 10);
        Due.sentence("13: all are in one heap");
        Due.plans(x, 1, Due.cells(0, 36));
        Due.due(x, ALL, "wrong", 0);
        for (int c = 0; c < 36; c++) {
            Due.due(x, ALL, "wrong", 10 + c);
        }
        Due.sentence("13: a heap goes on by others, as far as it can: a snake through all ROWS");
        BeachIsRelaid y = new BeachIsRelaid();
        int[] snake = {0, 1, 2, 3, 4, 5, 11, 17, 16, 15, 14, 13, 12, 18, 24, 25, 26, 27, 28, 29, 35};
        Due.plans(y, 1, snake);
        Due.plans(y, 1, 31, 32);
        Due.due(y, Due.bits(snake) | Due.bits(31, 32), "wrong", 10);
        Due.plans(y, 0, 28, 29);
        Due.plans(y, 0, 25);
        Due.due(y, Due.bits(0, 1, 2, 3, 4, 5, 11, 17, 16, 15, 14, 13, 12, 18, 24), "wrong", 10 + 24);
        Due.due(y, Due.bits(26, 27, 32, 31), "wrong", 10 + 31);
        Due.due(y, Due.bits(35), "wrong", 45);
        Due.sentence("13: a heap doesn't go round the edge");
        BeachIsRelaid z = new BeachIsRelaid();
        Due.plans(z, 1, 5, 6, 17, 18, 29, 30);
        for (int c : new int[] {5, 6, 17, 18, 29, 30}) {
            Due.due(z, 1L << c, "wrong", 10 + c);
        }
    }

    private static void trueCells() {
        Due.sentence("13: TRUE of one (50 .. 53): none, the first, the last, all");
        BeachIsRelaid x = Due.by("takes 1 ; lays 9 ; leaves 0 ;");
        for (int kind = 0; kind < 4; kind++) {
            x.staff(kind, 9, 0);
        }
        Due.due(x, 0, "wrong", 50);
        Due.due(x, 0, "wrong", 51);
        Due.due(x, ALL, "wrong", 52);
        Due.due(x, 0, "wrong", 53);
        x.set(2, 0, 9);
        x.set(2, 35, 9);
        Due.due(x, 1 | 1L << 35, "wrong", 50);
        Due.due(x, 1 | 1L << 35, "wrong", 53);
        x.set(3, 3, 0);
        Due.due(x, 1L << 35 | Due.bits(1, 2, 3, 4, 5), "wrong", 53);
        Due.sentence("13: TRUE is of what one would LAY, whatever lies there");
        BeachIsRelaid y = clerkAt(0);
        y.set(1, 7, 5);
        Due.due(y, ALL, "wrong", 50);
    }

    private static void shoreIs(BeachIsRelaid x, int... want) {
        for (int what = 0; what < 6; what++) {
            Due.due(x, want[what], "shore", what);
        }
    }

    private static void shore() {
        Due.sentence("14: none is WRONG: 0, no HEAPS, 0, WORST 0, 0, NONE");
        BeachIsRelaid x = new BeachIsRelaid();
        shoreIs(x, 0, 0, 0, 0, 0, NONE);
        Due.sentence("14: one is WRONG: the first CELL, the last");
        x.set(2, 0, 1);
        shoreIs(x, 1, 1, 1, 0, 1, 0);
        x.set(2, 0, 0);
        x.set(2, 35, 1);
        shoreIs(x, 1, 1, 1, 0, 1, 35);
        Due.sentence("14: all are WRONG");
        Due.plans(x, 1, Due.cells(0, 36));
        shoreIs(x, 36, 1, 36, 0, 36, 0);
    }

    private static void heaps() {
        Due.sentence("14: HEAPS: how many: 0 .. 18; the size of the greatest, the first, the last, of like ones");
        BeachIsRelaid x = new BeachIsRelaid();
        int many = 0;
        for (int c = 0; c < 36; c++) {
            if ((c + c / 6) % 2 == 0) {
                x.set(2, c, 1);
                many++;
                Due.due(x, many, "shore", 1);
                Due.due(x, 1, "shore", 2);
            }
        }
        Due.due(x, 18, "shore", 1);
        Due.plans(x, 0, Due.cells(0, 36));
        Due.plans(x, 1, 0, 1, 2, 35);
        Due.due(x, 2, "shore", 1);
        Due.due(x, 3, "shore", 2);
        Due.plans(x, 1, 34, 33, 32);
        Due.due(x, 2, "shore", 1);
        Due.due(x, 4, "shore", 2);
        Due.plans(x, 1, 14, 16);
        Due.due(x, 4, "shore", 1);
        Due.plans(x, 1, 15);
        Due.due(x, 3, "shore", 1);
        Due.sentence("14: HEAPS: CELLS that touch by a corner, or round the edge, don't hang together");
        BeachIsRelaid y = new BeachIsRelaid();
        Due.plans(y, 1, 0, 7, 14, 21, 28, 35, 5, 6, 10);
        Due.due(y, 7, "shore", 1);
        Due.due(y, 3, "shore", 2);
    }

    private static void worst() {
        Due.sentence("14: WORST: reach 0 .. 6; how many then");
        for (int reach = 0; reach <= 6; reach++) {
            BeachIsRelaid x = new BeachIsRelaid();
            for (int c = 0; c < 36; c++) {
                // the rows that the tide takes were well, the others were and stay so
                x.set(1, c, c >= 36 - 6 * reach ? 1 : 0);
                x.set(2, c, c >= 36 - 6 * reach ? 1 : 0);
            }
            Due.due(x, reach, "shore", 3);
            Due.due(x, 6 * reach, "shore", 4);
        }
        Due.sentence("14: WORST: of like ones the least");
        BeachIsRelaid y = new BeachIsRelaid();
        y.set(1, 26, 1);
        y.set(2, 26, 1);
        Due.due(y, 2, "shore", 3);
        Due.due(y, 1, "shore", 4);
        Due.plans(y, 1, 31);
        y.set(1, 32, 1);
        y.set(2, 32, 1);
        Due.due(y, 2, "shore", 3);
        Due.due(y, 3, "shore", 4);
        y.set(2, 26, 0);
        // row 4 would be well by its tide: reach 1 is worst
        Due.due(y, 1, "shore", 3);
        Due.due(y, 3, "shore", 4);
        Due.sentence("14: WORST: a TIDE now, at 999, too");
        y.set(0, 0, 999);
        Due.due(y, 1, "shore", 3);
        Due.due(y, 3, "shore", 4);
        Due.due(y, 999, "told", 0, 0);
    }

    private static void tour() {
        Due.sentence("15: a SHEET of 0 numbers: 0 minutes");
        BeachIsRelaid x = clerkAt(35);
        for (int sort = 0; sort < 3; sort++) {
            x.sheet(0, sort, 0);
            Due.due(x, 0, "tour", 0, 0);
        }
        Due.sentence("15: a SHEET of 36 numbers: all CELLS");
        for (int sort = 0; sort < 3; sort++) {
            Due.row(x, 0, sort, Due.cells(0, 36));
            Due.due(x, 10 + 36 * 2 + 30 + 5 * 6, "tour", 0, 0);
        }
        Due.sentence("15: BAD: a SHEET of 37 and of 40 numbers tells one twice");
        for (int size : new int[] {37, 40}) {
            x.sheet(1, 2, size);
            x.copy(0, 0, 1, 0, 36);
            for (int i = 36; i < size; i++) {
                x.cell(1, i, i - 36);
            }
            Due.due(x, BAD, "tour", 1, 0);
        }
        Due.sentence("15: BAD: 36 numbers, of which one is told twice");
        x.cell(0, 35, 34);
        Due.due(x, BAD, "tour", 0, 0);
        Due.sentence("15: -11: a SHEET that is missing");
        Due.due(x, MISSING, "tour", 3, 0);
        Due.sentence("15: one CELL, where one stands: TAKES alone");
        Due.row(x, 2, 0, 35);
        Due.due(x, 2, "tour", 2, 0);
        Due.sentence("15: RELAYING in that order: TAKES by what lies there when one comes");
        BeachIsRelaid y = Due.by("takes 1 + beside * 10 ; lays mark ; leaves 0 ;");
        y.staff(0, 0, 0);
        Due.plans(y, 1, 0, 1);
        Due.row(y, 0, 0, 0, 1);
        Due.due(y, 11 + 1 + 1, "tour", 0, 0);
        Due.row(y, 0, 0, 1, 0);
        Due.due(y, 1 + 11 + 1 + 1, "tour", 0, 0);
    }

    private static void soonest() {
        Due.sentence("16: none is WRONG: 0 minutes, first CELL NONE");
        BeachIsRelaid x = clerkAt(14);
        Due.due(x, 0, "soonest", 0, 0);
        Due.due(x, NONE, "soonest", 0, 1);
        Due.sentence("16: none is WRONG again, behind some that were");
        Due.plans(x, 1, 7, 8, 9);
        Due.due(x, 2 + 2 + 9, "soonest", 0, 0);
        Due.due(x, 7, "soonest", 0, 1);
        Due.plans(x, 0, 7, 8, 9);
        Due.due(x, 0, "soonest", 0, 0);
        Due.due(x, NONE, "soonest", 0, 1);
        Due.sentence("16: one is WRONG");
        x.set(2, 0, 9);
        Due.due(x, 4 + 11, "soonest", 0, 0);
        Due.due(x, 0, "soonest", 0, 1);
        x.set(2, 0, 0);
        x.set(2, 35, 1);
        Due.due(x, 6 + 3, "soonest", 0, 0);
        Due.due(x, 35, "soonest", 0, 1);
        Due.sentence("16: that of fewest minutes, not by the nearest each time");
        BeachIsRelaid y = clerkAt(3);
        Due.plans(y, 1, 1, 5, 4);
        // to 4, 5 and back to 1: 6; to 1 and then 4, 5: 6; like ones: 1 is first
        Due.due(y, 6 + 9, "soonest", 0, 0);
        Due.due(y, 1, "soonest", 0, 1);
        Due.plans(y, 0, 1);
        Due.plans(y, 1, 0);
        Due.due(y, 2 + 5 + 9, "soonest", 0, 0);
        Due.due(y, 4, "soonest", 0, 1);
        Due.sentence("16: of like ones the first (by CELLS, the first first)");
        BeachIsRelaid z = clerkAt(14);
        Due.plans(z, 1, 13, 15);
        Due.due(z, 1 + 2 + 6, "soonest", 0, 0);
        Due.due(z, 13, "soonest", 0, 1);
        Due.plans(z, 1, 8);
        Due.due(z, 8, "soonest", 0, 1);
        Due.sentence("16: TAKES told as all is now");
        BeachIsRelaid w = Due.by("takes 1 + beside * 10 ; lays mark ; leaves 0 ;");
        w.staff(0, 0, 0);
        Due.plans(w, 1, 0, 1);
        Due.due(w, 11 + 1 + 11, "soonest", 0, 0);
    }

    private static void soonestOfSeven() {
        Due.sentence("16: 7 are WRONG: all orders; 8: STATE; 7 again");
        BeachIsRelaid x = clerkAt(0);
        Due.plans(x, 1, 30, 5, 35, 31, 4, 11, 34);
        // down to 30, 31, 34, 35, up to 11, 5, 4: 5 + 1 + 3 + 1 + 4 + 1 + 1
        // to the right first 4, 5, 11, 35, 34, 31, 30: 4 + 1 + 1 + 4 + 1 + 3 + 1 = 15
        Due.due(x, 15 + 21, "soonest", 0, 0);
        Due.due(x, 4, "soonest", 0, 1);
        x.set(4, 0, 24);
        Due.due(x, 12 + 21, "soonest", 0, 0);
        Due.due(x, 30, "soonest", 0, 1);
        Due.plans(x, 1, 32);
        Due.due(x, STATE, "soonest", 0, 0);
        Due.due(x, STATE, "soonest", 0, 1);
        Due.plans(x, 0, 4);
        Due.due(x, 1 + 1 + 1 + 2 + 1 + 4 + 1 + 21, "soonest", 0, 0);
        Due.sentence("16: 7 and 36 are WRONG, of each of four");
        BeachIsRelaid y = new BeachIsRelaid();
        for (int one = 0; one < 4; one++) {
            y.staff(0, 0, one);
        }
        Due.plans(y, 1, 0, 1, 2, 3, 4, 5, 6);
        // 0, 6, then 1 to 5: of the first three; 3, 4, 5, then back to 0, 6: of the last
        int[] ways = {0 + 1 + 2 + 4, 1 + 1 + 2 + 4, 2 + 1 + 2 + 4, 0 + 2 + 3 + 2 + 1};
        int[] firsts = {0, 0, 0, 3};
        for (int one = 0; one < 4; one++) {
            Due.due(y, 7 * 3 + ways[one], "soonest", one, 0);
            Due.due(y, firsts[one], "soonest", one, 1);
        }
        Due.plans(y, 1, Due.cells(7, 36));
        for (int one = 0; one < 4; one++) {
            Due.due(y, STATE, "soonest", one, 0);
        }
    }

    private static void together() {
        Due.sentence("17: no STAFF: 0 minutes, with none and 7 WRONG; with 8: STATE");
        BeachIsRelaid x = new BeachIsRelaid();
        Due.due(x, 0, "together", 0);
        Due.plans(x, 1, Due.cells(0, 7));
        Due.due(x, 0, "together", 0);
        Due.due(x, BAD, "together", 10);
        Due.plans(x, 1, 7);
        Due.due(x, STATE, "together", 0);
        Due.due(x, BAD, "together", 10);
        Due.sentence("17: none is WRONG: 0 minutes, NONE: nowhere, of each of four");
        BeachIsRelaid y = new BeachIsRelaid();
        for (int one = 0; one < 4; one++) {
            y.staff(0, 0, 35 - 5 * one);
        }
        Due.due(y, 0, "together", 0);
        for (int one = 0; one < 4; one++) {
            Due.due(y, NONE, "together", 10 + one);
        }
        Due.due(y, BAD, "together", 14);
        Due.sentence("17: fewer CELLS than STAFF: as many as there are CELLS");
        y.set(2, 24, 1);
        Due.due(y, 1 + 3, "together", 0);
        // of like ones the first: 24 for the second is ahead of nowhere
        goals(y, NONE, 24, NONE, NONE);
        y.set(2, 0, 1);
        Due.due(y, 1 + 3 + 5 + 3, "together", 0);
        goals(y, NONE, 0, 24, NONE);
        Due.sentence("17: as many CELLS as STAFF: each to one of one's own");
        y.set(2, 35, 9);
        y.set(2, 30, 1);
        Due.due(y, 0 + 11 + 0 + 3 + 1 + 3 + 5 + 3, "together", 0);
        goals(y, 35, 30, 24, 0);
        Due.sentence("17: more CELLS than STAFF: as many as there are STAFF, 7 CELLS at most");
        y.set(2, 25, 1);
        y.set(2, 19, 1);
        // 35 is left: to 24, 30, 25 and 19
        Due.due(y, 6 + 3 + 0 + 3 + 0 + 3 + 1 + 3, "together", 0);
        y.set(2, 7, 1);
        Due.due(y, 7, "count", 1);
        Due.due(y, 19, "together", 0);
        y.set(2, 8, 1);
        Due.due(y, STATE, "together", 0);
        for (int one = 0; one < 4; one++) {
            Due.due(y, STATE, "together", 10 + one);
        }
    }

    private static void goals(BeachIsRelaid x, int... want) {
        for (int one = 0; one < want.length; one++) {
            Due.due(x, want[one], "together", 10 + one);
        }
    }

    private static void togetherLikeOnes() {
        Due.sentence("17: of like ones the first: who goes where, by numbers");
        BeachIsRelaid x = new BeachIsRelaid();
        x.staff(0, 0, 7);
        x.staff(0, 0, 7);
        Due.plans(x, 1, 6, 1, 8);
        Due.due(x, 8, "together", 0);
        goals(x, 1, 6);
        Due.sentence("17: of like ones the first: who goes nowhere behind all CELLS");
        Due.plans(x, 0, 6, 1, 8);
        Due.plans(x, 1, 35);
        goals(x, 35, NONE);
        x.set(4, 0, 6);
        goals(x, NONE, 35);
        Due.sentence("17: one who is far goes, too, if CELLS are left");
        BeachIsRelaid z = new BeachIsRelaid();
        z.staff(0, 0, 0);
        z.staff(0, 0, 35);
        z.staff(0, 0, 34);
        Due.plans(z, 1, 1, 2);
        Due.due(z, 1 + 3 + 7 + 3, "together", 0);
        goals(z, 1, NONE, 2);
        z.set(2, 3, 1);
        Due.due(z, 1 + 3 + 7 + 3 + 7 + 3, "together", 0);
        goals(z, 1, 2, 3);
        Due.sentence("17: none is WRONG again, behind some that were");
        Due.plans(z, 0, 1, 2, 3);
        Due.due(z, 0, "together", 0);
        goals(z, NONE, NONE, NONE);
        Due.sentence("17: of all ways that of fewest minutes, not each one's nearest");
        BeachIsRelaid y = new BeachIsRelaid();
        y.staff(0, 0, 2);
        y.staff(0, 0, 1);
        Due.plans(y, 1, 1, 0);
        Due.due(y, 3 + 3 + 2, "together", 0);
        goals(y, 0, 1);
        y.set(2, 0, 0);
        y.set(2, 5, 1);
        Due.due(y, 3 + 3 + 3, "together", 0);
        goals(y, 5, 1);
    }

    private static void nearest() {
        Due.sentence("18: no STAFF: NONE, minutes NONE, of the first CELL and the last");
        BeachIsRelaid x = new BeachIsRelaid();
        for (int c = 0; c < 36; c += 35) {
            Due.due(x, NONE, "nearest", c, 0);
            Due.due(x, NONE, "nearest", c, 1);
        }
        Due.sentence("18: of one of STAFF that one; of four who is through soonest");
        x.staff(2, 0, 35);
        Due.due(x, 0, "nearest", 0, 0);
        Due.due(x, 10 + 4, "nearest", 0, 1);
        Due.due(x, 4, "nearest", 35, 1);
        x.staff(5, 9, 0);
        x.staff(0, 0, 30);
        x.staff(1, 0, 5);
        int[] cells = {0, 35, 30, 5, 31};
        int[] who = {3, 0, 2, 3, 2};
        int[] minutes = {6, 4, 2, 1, 3};
        for (int i = 0; i < cells.length; i++) {
            Due.due(x, who[i], "nearest", cells[i], 0);
            Due.due(x, minutes[i], "nearest", cells[i], 1);
        }
        Due.sentence("18: of like ones the first");
        BeachIsRelaid y = new BeachIsRelaid();
        for (int one = 0; one < 4; one++) {
            y.staff(0, 0, new int[] {9, 8, 13, 20}[one]);
        }
        Due.due(y, 1, "nearest", 14, 0);
        Due.due(y, 3, "nearest", 14, 1);
        Due.sentence("18: minutes 1 .. 109");
        BeachIsRelaid z = Due.by("takes mark * 11 ; lays mark ; leaves 0 ;");
        z.staff(0, 0, 0);
        z.set(2, 35, 9);
        Due.due(z, 1, "nearest", 0, 1);
        Due.due(z, 109, "nearest", 35, 1);
    }

    private static void shares(BeachIsRelaid x, int row, int above, int below) {
        Due.due(x, above, "share", row, 0);
        Due.due(x, below, "share", row, 1);
    }

    private static void share() {
        Due.sentence("19: NO: none is WRONG");
        BeachIsRelaid x = new BeachIsRelaid();
        for (int row = 0; row < 6; row++) {
            Due.due(x, NO, "share", row, 0);
            Due.due(x, NO, "share", row, 1);
        }
        Due.sentence("19: one is WRONG: 1 of 1 of its ROW, 0 of 1 of others");
        x.set(2, 6, 1);
        for (int row = 0; row < 6; row++) {
            shares(x, row, row == 1 ? 1 : 0, 1);
        }
        x.set(2, 6, 0);
        Due.sentence("19: none of a ROW: 0 of 1; all: 1 of 1");
        Due.plans(x, 1, 30, 35);
        shares(x, 5, 1, 1);
        shares(x, 4, 0, 1);
        shares(x, 0, 0, 1);
        Due.sentence("19: in lowest terms");
        Due.plans(x, 1, 24, 29);
        shares(x, 5, 1, 2);
        shares(x, 4, 1, 2);
        Due.plans(x, 1, 0, 5);
        shares(x, 0, 1, 3);
        Due.plans(x, 1, 1, 2, 3);
        shares(x, 0, 5, 9);
        shares(x, 5, 2, 9);
        Due.plans(x, 1, 4);
        shares(x, 0, 3, 5);
        Due.sentence("19: all 36 are WRONG: 1 of 6 of each ROW");
        Due.plans(x, 1, Due.cells(0, 36));
        for (int row = 0; row < 6; row++) {
            shares(x, row, 1, 6);
        }
        x.set(2, 35, 0);
        shares(x, 5, 1, 7);
        shares(x, 0, 6, 35);
    }

    /** A clerk who lays what is planned, and SHEET 0 of ints that tells all planned. */
    private static BeachIsRelaid planned(int kind, int number, int n) {
        BeachIsRelaid x = new BeachIsRelaid();
        x.staff(kind, number, 0);
        for (int c = 0; c < 36; c++) {
            x.set(2, c, c % 10);
        }
        x.sheet(0, 2, n);
        for (int i = 0; i < n; i++) {
            x.cell(0, i, i % 10);
        }
        return x;
    }

    private static void tellsFirst() {
        Due.sentence("20: the first that is otherwise: the first CELL, the last that is told");
        BeachIsRelaid x = planned(0, 0, 36);
        Due.due(x, NONE, "tells", 0, 0, 0);
        x.cell(0, 35, 9);
        Due.due(x, 35, "tells", 0, 0, 0);
        x.cell(0, 0, 10);
        Due.due(x, 0, "tells", 0, 0, 0);
        Due.sentence("20: a number that nobody LAYS is otherwise: -1, 10, the least, the most");
        for (int v : new int[] {-1, 10, 256, 65536, Due.LEAST, Due.MOST}) {
            x.cell(0, 0, v);
            Due.due(x, 0, "tells", 0, 0, 0);
        }
        Due.sentence("20: a SHEET of 0 numbers: none is otherwise");
        x.sheet(1, 0, 0);
        int[] want = {NONE, 63, 1023, 100, 0, 1, 127};
        for (int what = 0; what < 7; what++) {
            Due.due(x, want[what], "tells", 1, 0, what);
        }
        Due.sentence("20: a SHEET of 1 number: CELL 0 alone");
        Due.row(x, 1, 0, 0);
        x.set(2, 1, 9);
        Due.due(x, NONE, "tells", 1, 0, 0);
        Due.sentence("20: a SHEET of 36 numbers is told, of 37 and 40: BAD");
        BeachIsRelaid y = planned(0, 0, 36);
        y.sheet(1, 2, 37);
        y.sheet(2, 2, 40);
        y.copy(0, 0, 1, 0, 36);
        y.copy(0, 0, 2, 0, 36);
        for (int what = 0; what < 7; what++) {
            Due.due("whether it is told", y.tells(0, 0, what) == BAD ? 1 : 0, 0);
            Due.due(y, BAD, "tells", 1, 0, what);
            Due.due(y, BAD, "tells", 2, 0, what);
        }
        Due.sentence("20: -11: a SHEET that is missing");
        for (int what = 0; what < 7; what++) {
            Due.due(y, MISSING, "tells", 3, 0, what);
        }
    }

    private static void tellsKindsAndNumbers() {
        Due.sentence("20: KINDS (bits 0 .. 5): none, each, all, whatever one's own is");
        int[] kinds = {1 << 0 | 1 << 2 | 1 << 4 | 1 << 5, 1 << 1, 1 << 3, 0};
        for (int own = 0; own < 6; own++) {
            BeachIsRelaid x = planned(own, 5, 36);
            // as planned; as a boy; as a lad of row 5; as nobody
            Due.due(x, kinds[0], "tells", 0, 0, 1);
            for (int c = 1; c < 36; c += 2) {
                x.cell(0, c, Math.min(c % 10 + 1, 9));
            }
            Due.due(x, kinds[1], "tells", 0, 0, 1);
            for (int c = 30; c < 36; c++) {
                x.cell(0, c, 0);
            }
            Due.due(x, kinds[2], "tells", 0, 0, 1);
            x.cell(0, 0, 9);
            Due.due(x, kinds[3], "tells", 0, 0, 1);
            x.sheet(0, 0, 1);
            Due.due(x, 63, "tells", 0, 0, 1);
            Due.due(x, own, "told", 0, 5);
        }
        Due.sentence("20: NUMBERS (bits 0 .. 9): none, the first, the last, all, whatever one's own is");
        BeachIsRelaid y = Due.by("takes 1 ; lays number ; leaves 0 ;");
        y.staff(0, 4, 0);
        for (int v = 0; v <= 9; v++) {
            Due.row(y, 0, 0, v, v);
            Due.due(y, 1 << v, "tells", 0, 0, 2);
        }
        Due.row(y, 0, 0, 10);
        Due.due(y, 0, "tells", 0, 0, 2);
        y.force(0);
        Due.row(y, 0, 0, 0);
        Due.due(y, 1023, "tells", 0, 0, 2);
        Due.due(y, 4, "told", 0, 3);
    }

    private static void tellsTides() {
        Due.sentence("20: TIDES (of 0 .. 99): how many, the least: the first, the last, none, all, whatever TIDE is");
        for (int tide : new int[] {0, 50, 99, 100, 999}) {
            BeachIsRelaid x = Due.by("takes 1 ; lays 1*(tide=0)+2*(tide=99)+3*(tide=100) ; leaves 0 ;");
            x.staff(0, 0, 0);
            x.set(0, 0, tide);
            int[] told = {1, 2, 3, 4, 0};
            int[] many = {1, 1, 0, 0, 98};
            int[] least = {0, 99, NONE, NONE, 1};
            for (int i = 0; i < told.length; i++) {
                Due.row(x, 0, 0, told[i]);
                Due.due(x, many[i], "tells", 0, 0, 3);
                Due.due(x, least[i], "tells", 0, 0, 4);
            }
            x.force(0);
            Due.due(x, 100, "tells", 0, 0, 3);
            Due.due(x, 0, "tells", 0, 0, 4);
            Due.due(x, tide, "told", 0, 0);
        }
    }

    private static void tellsTexts() {
        Due.sentence("20: TEXTS (bits): of one text, of 6; none, the first, the last, all; THE RULE stays");
        BeachIsRelaid x = new BeachIsRelaid();
        x.staff(0, 0, 0);
        Due.row(x, 0, 1, 0);
        Due.row(x, 1, 1, 1);
        Due.row(x, 2, 1, 5);
        Due.due(x, 1, "tells", 0, 0, 5);
        Due.due(x, 0, "tells", 1, 0, 5);
        for (int i = 1; i <= 5; i++) {
            Due.read(x, "takes 1;lays " + (i == 5 ? 5 : 1) + ";leaves 1;");
        }
        for (int rule = 0; rule <= 5; rule++) {
            x.force(rule);
            Due.due(x, 1, "tells", 0, 0, 5);
            Due.due(x, 1 << 1 | 1 << 2 | 1 << 3 | 1 << 4, "tells", 1, 0, 5);
            Due.due(x, 1 << 5, "tells", 2, 0, 5);
            Due.due(x, rule, "count", 5);
        }
        x.sheet(0, 0, 0);
        Due.due(x, 63, "tells", 0, 0, 5);
    }

    private static void tellsReaches() {
        Due.sentence("20: REACHES (bits 0 .. 6): none, each, all; one does not matter");
        BeachIsRelaid x = new BeachIsRelaid();
        x.staff(0, 0, 0);
        x.staff(5, 9, 35);
        Due.marks(x, 1, Due.cells(0, 36));
        for (int reach = 0; reach <= 6; reach++) {
            x.sheet(0, 0, 36);
            for (int c = 0; c < 36 - 6 * reach; c++) {
                x.cell(0, c, 1);
            }
            Due.due(x, 1 << reach, "tells", 0, 0, 6);
            Due.due(x, 1 << reach, "tells", 0, 1, 6);
        }
        x.cell(0, 35, 1);
        Due.due(x, 0, "tells", 0, 0, 6);
        Due.row(x, 0, 0, 1);
        Due.due(x, 63, "tells", 0, 0, 6);
        Due.row(x, 0, 0, 0);
        Due.due(x, 64, "tells", 0, 0, 6);
        x.set(1, 0, 0);
        Due.due(x, 127, "tells", 0, 0, 6);
        Due.sentence("20: REACHES: each TIDE is one by itself, of what lies now, at TIDE as it is");
        BeachIsRelaid y = Due.by("takes 1 ; lays 0 ; leaves mark - 1 + tide * 2 ;");
        y.staff(0, 0, 0);
        Due.marks(y, 5, Due.cells(0, 36));
        for (int reach = 0; reach <= 6; reach++) {
            y.sheet(0, 0, 36);
            for (int c = 0; c < 36; c++) {
                y.cell(0, c, c < 36 - 6 * reach ? 5 : 4);
            }
            Due.due(y, 1 << reach, "tells", 0, 0, 6);
        }
        Due.sentence("20: REACHES: it is in thought, at TIDE 999, too");
        x.set(0, 0, 999);
        Due.due(x, 127, "tells", 0, 0, 6);
        Due.due(x, 999, "told", 0, 0);
        Due.due(x, 1, "told", 35, 1);
    }

    private static void film() {
        Due.sentence("21: n 0 .. 36: a SHEET of n bytes, whatever it was");
        for (int n : new int[] {0, 1, 35, 36}) {
            BeachIsRelaid x = new BeachIsRelaid();
            x.staff(1, 0, 0);
            x.set(2, 35, 8);
            x.sheet(1, 2, 40);
            x.cell(1, 0, 7);
            Due.due(x, n, "film", 1, 0, n);
            Due.due(x, n == 0 ? OUTSIDE : 1, "copy", 1, n - 1, 1, n - 1, 1);
            Due.due(x, OUTSIDE, "copy", 1, n, 1, n, 1);
            Due.due(x, 0, "crew", 1, 0, 0, 0);
            Due.due(x, NONE, "tells", 1, 0, 0);
            x.set(2, 35, 0);
            Due.due(x, n == 36 ? 35 : NONE, "tells", 1, 0, 0);
        }
        Due.sentence("21: a SHEET of 0, 36, 37, 40 numbers, of each sort, or missing: it becomes n bytes");
        for (int size : new int[] {0, 36, 37, 40}) {
            for (int sort = -1; sort < 3; sort++) {
                BeachIsRelaid x = clerkAt(0);
                x.sheet(2, sort, size);
                Due.due(x, 2, "film", 2, 0, 2);
                Due.due(x, 1, "cell", 2, 1, 256);
                Due.due(x, OUTSIDE, "cell", 2, 2, 0);
                Due.due(x, NONE, "tells", 2, 0, 0);
            }
        }
        Due.sentence("21: what one LAYS, whatever lies there; truly nothing is laid, one stays");
        BeachIsRelaid y = new BeachIsRelaid();
        y.staff(0, 0, 7);
        y.set(1, 3, 5);
        for (int c = 0; c < 36; c++) {
            y.set(2, c, 9 - c % 10);
        }
        Due.due(y, 36, "film", 0, 0, 36);
        Due.due(y, NONE, "tells", 0, 0, 0);
        for (int c = 0; c < 36; c++) {
            // each item by itself: it is what was planned there, and no more when that changes
            y.set(2, c, 1 + c % 9);
            Due.due(y, 9 - c % 10 == 1 + c % 9 ? NONE : c, "tells", 0, 0, 0);
            y.set(2, c, 9 - c % 10);
        }
        Due.due(y, 5, "told", 3, 1);
        Due.due(y, 7, "told", 0, 4);
    }

    private static void drawn() {
        Due.sentence("22: how many CELLS are WRONG then: 0 .. 36; TIDE 999 is no bound to it");
        BeachIsRelaid x = new BeachIsRelaid();
        Due.due(x, 0, "drawn", 1);
        Due.plans(x, 1, Due.cells(0, 36));
        Due.due(x, 36, "drawn", 1);
        Due.marks(x, 1, Due.cells(0, 36));
        Due.due(x, 36, "drawn", 1);
        Due.due(x, 0, "drawn", 7);
        // by these z is 511 or 0 of 512: one more, one less is another reach
        int[] seeds = {286, 798, 1310, 131, 643, 1155};
        int[] reaches = {6, 3, 4, 5, 2, 3};
        for (int i = 0; i < seeds.length; i++) {
            Due.due(x, 6 * reaches[i], "drawn", seeds[i]);
        }
        x.set(0, 0, 999);
        Due.due(x, 36, "drawn", 1);
        Due.due(x, 999, "told", 0, 0);
        Due.due(x, 0, "count", 1);
        Due.sentence("22: by THE RULE, at TIDE as it is");
        BeachIsRelaid y = Due.by("takes 1 ; lays 1 ; leaves tide ;");
        Due.plans(y, 3, Due.cells(0, 36));
        Due.marks(y, 3, Due.cells(0, 36));
        y.set(0, 0, 3);
        Due.due(y, 0, "drawn", 1);
        y.set(0, 0, 2);
        Due.due(y, 36, "drawn", 1);
    }

    private static void chances(BeachIsRelaid x, int seed, int m, int k, int above, int below) {
        Due.due(x, above, "chance", seed, m, k, 0);
        Due.due(x, below, "chance", seed, m, k, 1);
    }

    private static void chance() {
        BeachIsRelaid x = new BeachIsRelaid();
        Due.marks(x, 1, Due.cells(0, 36));
        Due.plans(x, 1, Due.cells(0, 36));
        Due.sentence("23: k 0: all: 1 of 1");
        chances(x, 0, 1, 0, 1, 1);
        chances(x, 0, 20, 0, 1, 1);
        Due.sentence("23: of none: 0 of 1");
        // by seed 0 the reach is 3: 18 WRONG
        chances(x, 0, 1, 19, 0, 1);
        chances(x, 2, 2, 36, 0, 1);
        Due.sentence("23: that is k or more: k itself, one less, one more");
        chances(x, 0, 1, 17, 1, 1);
        chances(x, 0, 1, 18, 1, 1);
        Due.sentence("23: in lowest terms, of m 1 .. 20");
        // from seed 0 on the reaches are 3 6 2 5 4 1 4 0 6 3 6 2 1 4 1 4 3 6 2 6
        chances(x, 0, 2, 36, 1, 2);
        chances(x, 0, 4, 30, 1, 2);
        chances(x, 0, 20, 36, 1, 4);
        chances(x, 0, 19, 36, 4, 19);
        chances(x, 0, 20, 24, 1, 2);
        chances(x, 0, 20, 18, 13, 20);
        chances(x, 0, 20, 1, 19, 20);
        Due.sentence("23: k 36: all CELLS are WRONG");
        BeachIsRelaid y = new BeachIsRelaid();
        Due.plans(y, 1, Due.cells(0, 36));
        chances(y, -5, 20, 36, 1, 1);
        y.set(2, 0, 0);
        chances(y, -5, 20, 36, 0, 1);
        chances(y, -5, 20, 35, 1, 1);
    }

    private static void image() {
        Due.sentence("24: how many of STAFF: none, four");
        BeachIsRelaid x = new BeachIsRelaid();
        Due.due(x, 0, "image");
        for (int one = 0; one < 4; one++) {
            x.staff(one, one, one);
            Due.due(x, one + 1, "image");
        }
        Due.sentence("24: AN IMAGE keeps what is now; a later one instead of it");
        x.set(0, 0, 5);
        x.image();
        x.set(0, 0, 6);
        Due.due(x, 4, "back");
        Due.due(x, 5, "told", 0, 0);
        x.set(0, 0, 7);
        x.image();
        x.set(0, 0, 8);
        x.back();
        Due.due(x, 7, "told", 0, 0);
    }

    private static void back() {
        Due.sentence("25: STATE: there is none");
        BeachIsRelaid x = new BeachIsRelaid();
        Due.due(x, STATE, "back");
        Due.sentence("25: STAFF that came since go: all four");
        x.image();
        for (int one = 0; one < 4; one++) {
            x.staff(3, 3, 3);
            x.relay(one, 9);
        }
        Due.due(x, 0, "back");
        Due.due(x, 0, "count", 0);
        Due.due(x, BAD, "told", 0, 3);
        Due.sentence("25: others come in their places, of their own KIND, none LAID");
        Due.due(x, 0, "staff", 4, 9, 35);
        Due.due(x, 4, "told", 0, 5);
        Due.due(x, 9, "told", 0, 3);
        Due.due(x, 35, "told", 0, 4);
        Due.due(x, 0, "told", 0, 6);
        Due.sentence("25: MARKS, PLANS, TIDE, NUMBERS, where all stand, LAID, THE RULE: as kept, on their bounds");
        BeachIsRelaid y = new BeachIsRelaid();
        Due.read(y, "takes 9 ; lays 9 ; leaves 9 ;");
        for (int one = 0; one < 4; one++) {
            y.staff(one, 9, 35);
        }
        y.force(1);
        y.relay(0, 0);
        y.set(1, 35, 9);
        y.set(2, 35, 9);
        y.set(0, 0, 999);
        Due.due(y, 4, "image");
        for (int one = 0; one < 4; one++) {
            y.set(3, one, 0);
            y.relay(one, 7);
        }
        y.set(1, 35, 0);
        y.set(2, 35, 0);
        y.set(2, 0, 4);
        y.set(0, 0, 0);
        y.force(0);
        for (int again = 0; again < 2; again++) {
            Due.due(y, 4, "back");
            keptIs(y);
            y.tide(6);
            y.relay(3, 9);
        }
        Due.sentence("25: TEXTS, THE TAPE, SHEETS are not of it: they stay");
        Due.read(y, "takes 8 ; lays 8 ; leaves 8 ;");
        y.feed('t');
        y.sheet(0, 1, 36);
        y.back();
        Due.due(y, 3, "count", 3);
        Due.due(y, 1, "count", 4);
        Due.due(y, 1, "cell", 0, 35, 1);
        Due.due(y, 1, "count", 5);
    }

    private static void keptIs(BeachIsRelaid x) {
        for (int one = 0; one < 4; one++) {
            Due.due(x, 9, "told", one, 3);
            Due.due(x, one == 0 ? 0 : 35, "told", one, 4);
            Due.due(x, one, "told", one, 5);
            Due.due(x, one == 0 ? 1 : 0, "told", one, 6);
        }
        for (int c = 0; c < 36; c++) {
            Due.due(x, c == 0 || c == 35 ? 9 : 0, "told", c, 1);
            Due.due(x, c == 35 ? 9 : 0, "told", c, 2);
        }
        Due.due(x, 999, "told", 0, 0);
        Due.due(x, 1, "count", 5);
    }

    private static void count() {
        Due.sentence("26: STAFF 0 .. 4, WRONG 0 .. 36, TIDE 0 .. 999, TEXTS 1 .. 6, bytes 0 .. 160, THE RULE 0 .. 5");
        BeachIsRelaid x = new BeachIsRelaid();
        counts(x, 0, 0, 0, 1, 0, 0);
        for (int i = 0; i < 5; i++) {
            x.staff(0, 0, 0);
            Due.read(x, "takes 1;lays 1;leaves 1;");
        }
        Due.plans(x, 1, Due.cells(0, 36));
        for (int i = 0; i < 160; i++) {
            x.feed(';');
        }
        x.set(0, 0, 999);
        x.force(5);
        counts(x, 4, 36, 999, 6, 160, 5);
    }

    private static void counts(BeachIsRelaid x, int... want) {
        for (int what = 0; what < 6; what++) {
            Due.due(x, want[what], "count", what);
        }
    }

    private static void sheet() {
        Due.sentence("27: a row of 0, 36, 37, 40 numbers of each sort, all 0");
        for (int n : new int[] {0, 1, 36, 37, 40}) {
            for (int sort = 0; sort < 3; sort++) {
                BeachIsRelaid x = new BeachIsRelaid();
                x.staff(2, 0, 0);
                x.sheet(2, 2, 40);
                x.sheet(3, sort, 40);
                for (int i = 0; i < 40; i++) {
                    x.cell(3, i, 5);
                }
                Due.due(x, 1, "sheet", 3, sort, n);
                Due.due(x, n == 0 ? OUTSIDE : 1, "copy", 3, n - 1, 3, n - 1, 1);
                Due.due(x, OUTSIDE, "copy", 3, n, 3, n, 1);
                for (int k = 0; k < 3; k++) {
                    Due.due(x, k == sort ? 0 : UNLIKE, "crew", 3, k, 0, 0);
                }
                x.sheet(1, sort, 36);
                Due.due(x, Math.min(n, 36), "copy", 3, 0, 1, 0, Math.min(n, 36));
                Due.due(x, NONE, "tells", 1, 0, 0);
                Due.due(x, Math.max(n - 36, 0), "copy", 3, 36 - (n < 36 ? 36 : 0), 1, 0, Math.max(n - 36, 0));
                Due.due(x, NONE, "tells", 1, 0, 0);
            }
        }
        Due.sentence("27: or missing, whatever n is; a missing one may become a row again");
        BeachIsRelaid x = new BeachIsRelaid();
        for (int n : new int[] {Due.LEAST, -1, 0, 40, 41, Due.MOST}) {
            Due.due(x, 1, "sheet", 0, 0, 1);
            Due.due(x, 1, "cell", 0, 0, 1);
            Due.due(x, 1, "sheet", 0, -1, n);
            Due.due(x, MISSING, "cell", 0, 0, 1);
            Due.due(x, 1, "sheet", 0, -1, n);
        }
        Due.sentence("27: each of four SHEETS is its own");
        for (int s = 0; s < 4; s++) {
            x.sheet(s, 0, s);
        }
        for (int s = 0; s < 4; s++) {
            Due.due(x, OUTSIDE, "cell", s, s, 0);
            Due.due(x, s == 0 ? OUTSIDE : 1, "cell", s, s - 1, 0);
        }
    }

    /** What item 0 of SHEET 0 is told as, of 0 .. 9; NONE, if it is none of these. */
    private static int itemOf(BeachIsRelaid x) {
        for (int v = 0; v <= 9; v++) {
            x.set(2, 0, v);
            if (x.tells(0, 0, 0) == NONE) {
                return v;
            }
        }
        return NONE;
    }

    private static void cell() {
        Due.sentence("28: of bytes its lowest 8 bits, of shorts its lowest 16, of ints all");
        int[] v = {5, 256 + 5, -256 + 5, 65536 + 5, -65536 + 5, Due.LEAST + 5, Due.MOST - 255 + 5, Due.MOST - 65535 + 5, -1, 255,
            65535, 128, 32768};
        int[][] want = {
            {5, 5, 5, 5, 5, 5, 5, 5, NONE, NONE, NONE, NONE, 0},
            {5, NONE, NONE, 5, 5, 5, NONE, 5, NONE, NONE, NONE, NONE, NONE},
            {5, NONE, NONE, NONE, NONE, NONE, NONE, NONE, NONE, NONE, NONE, NONE, NONE},
        };
        for (int sort = 0; sort < 3; sort++) {
            BeachIsRelaid x = new BeachIsRelaid();
            x.staff(2, 0, 0);
            x.sheet(0, sort, 1);
            for (int i = 0; i < v.length; i++) {
                Due.due(x, 1, "cell", 0, 0, v[i]);
                Due.due("sort " + sort + ", v " + v[i], itemOf(x), want[sort][i]);
            }
        }
        Due.sentence("28: the first item, the last; no other");
        for (int n : new int[] {1, 36}) {
            BeachIsRelaid x = new BeachIsRelaid();
            x.staff(2, 0, 0);
            x.sheet(0, 0, n);
            Due.due(x, 1, "cell", 0, n - 1, 7);
            Due.due(x, n - 1, "tells", 0, 0, 0);
            x.set(2, n - 1, 7);
            Due.due(x, NONE, "tells", 0, 0, 0);
            Due.due(x, 1, "cell", 0, 0, 4);
            x.set(2, 0, 4);
            Due.due(x, NONE, "tells", 0, 0, 0);
            Due.due(x, OUTSIDE, "cell", 0, n, 4);
            Due.due(x, OUTSIDE, "cell", 0, -1, 4);
        }
        Due.sentence("28: -12: a SHEET of 0 numbers has no item");
        BeachIsRelaid y = new BeachIsRelaid();
        y.sheet(0, 0, 0);
        Due.due(y, OUTSIDE, "cell", 0, 0, 4);
        Due.due(y, MISSING, "cell", 1, 0, 4);
    }

    private static void planIs(BeachIsRelaid x, int... plan) {
        for (int c = 0; c < plan.length; c++) {
            x.set(2, c, plan[c]);
        }
    }

    private static void copy() {
        Due.sentence("29: all 40 numbers; none; of a SHEET of 0 numbers none");
        BeachIsRelaid x = new BeachIsRelaid();
        x.staff(2, 0, 0);
        Due.row(x, 0, 2, Due.cells(0, 40));
        x.sheet(1, 2, 40);
        x.sheet(2, 2, 0);
        Due.due(x, 40, "copy", 0, 0, 1, 0, 40);
        Due.due(x, OUTSIDE, "copy", 0, 0, 1, 0, 41);
        Due.due(x, OUTSIDE, "copy", 0, 1, 1, 0, 40);
        Due.due(x, OUTSIDE, "copy", 0, 0, 1, 1, 40);
        Due.due(x, 0, "copy", 2, 0, 2, 0, 0);
        Due.due(x, 0, "copy", 0, 40, 1, 40, 0);
        Due.due(x, OUTSIDE, "copy", 2, 0, 0, 0, 1);
        Due.due(x, OUTSIDE, "copy", 0, 0, 2, 0, 1);
        x.sheet(3, 2, 36);
        Due.due(x, 10, "copy", 1, 0, 3, 0, 10);
        planIs(x, 0, 1, 2, 3, 4, 5, 6, 7, 8, 9, 0);
        Due.due(x, NONE, "tells", 3, 0, 0);
        Due.sentence("29: the last number to the last place");
        x.cell(1, 39, 6);
        Due.due(x, 1, "copy", 1, 39, 3, 35, 1);
        Due.due(x, 35, "tells", 3, 0, 0);
        x.set(2, 35, 6);
        Due.due(x, NONE, "tells", 3, 0, 0);
        Due.sentence("29: as they were: onward and back over themselves");
        Due.row(x, 0, 1, 1, 2, 3, 4, 5);
        Due.due(x, 4, "copy", 0, 0, 0, 1, 4);
        planIs(x, 1, 1, 2, 3, 4);
        Due.due(x, NONE, "tells", 0, 0, 0);
        Due.due(x, 4, "copy", 0, 1, 0, 0, 4);
        planIs(x, 1, 2, 3, 4, 4);
        Due.due(x, NONE, "tells", 0, 0, 0);
        Due.due(x, 5, "copy", 0, 0, 0, 0, 5);
        Due.due(x, NONE, "tells", 0, 0, 0);
        Due.sentence("29: n below 0: -12");
        Due.due(x, OUTSIDE, "copy", 0, 0, 0, 0, -1);
        Due.due(x, OUTSIDE, "copy", 0, 3, 0, 3, -1);
    }

    private static void crew() {
        Due.sentence("30: n 0: none came, from wherever");
        BeachIsRelaid x = new BeachIsRelaid();
        Due.row(x, 0, 0, 0, 0, 0, 5, 9, 35, 1, 1, 1, 2, 2, 2, 3, 3, 3);
        for (int from : new int[] {0, 1, 15, 16, -1, Due.LEAST, Due.MOST}) {
            Due.due(x, 0, "crew", 0, 0, from, 0);
        }
        Due.due(x, 0, "count", 0);
        Due.sentence("30: n 4: four came, from one on, three by three");
        Due.due(x, 4, "crew", 0, 0, 3, 4);
        int[][] who = {{5, 9, 35}, {1, 1, 1}, {2, 2, 2}, {3, 3, 3}};
        for (int one = 0; one < 4; one++) {
            Due.due(x, who[one][0], "told", one, 5);
            Due.due(x, who[one][1], "told", one, 3);
            Due.due(x, who[one][2], "told", one, 4);
        }
        Due.sentence("30: others are left out: nobody more has room");
        Due.due(x, 0, "crew", 0, 0, 0, 4);
        Due.due(x, 4, "count", 0);
        BeachIsRelaid y = new BeachIsRelaid();
        Due.row(y, 0, 0, 0, 0, 0, 5, 9, 35, 1, 1, 1, 2, 2, 2);
        y.staff(4, 4, 4);
        Due.due(y, 3, "crew", 0, 0, 0, 4);
        Due.due(y, 1, "told", 3, 5);
        Due.sentence("30: others are left out: a KIND, NUMBER, CELL that is none");
        for (int[] bad : new int[][] {{-1, 0, 0}, {6, 0, 0}, {0, -1, 0}, {0, 10, 0}, {0, 0, -1}, {0, 0, 36}, {256, 0, 0}}) {
            BeachIsRelaid z = new BeachIsRelaid();
            Due.row(z, 1, 2, 1, 2, 3, bad[0], bad[1], bad[2], 4, 5, 6);
            Due.due(z, 2, "crew", 1, 2, 0, 3);
            Due.due(z, 2, "count", 0);
            Due.due(z, 4, "told", 1, 5);
        }
        Due.sentence("30: of bytes 256 is 0");
        BeachIsRelaid z = new BeachIsRelaid();
        Due.row(z, 1, 0, 256, 256 + 9, 35 - 256);
        Due.due(z, 1, "crew", 1, 0, 0, 1);
        Due.due(z, 9, "told", 0, 3);
        Due.due(z, 35, "told", 0, 4);
    }

    private static void crewOutside() {
        Due.sentence("30: a SHEET of 40 numbers: from 28 on four, from 29 on three, then -12: what stood ahead came");
        for (int from = 27; from <= 30; from++) {
            BeachIsRelaid x = new BeachIsRelaid();
            x.sheet(0, 1, 40);
            Due.due(x, from <= 28 ? 4 : OUTSIDE, "crew", 0, 1, from, 4);
            Due.due(x, from <= 28 ? 4 : 3, "count", 0);
        }
        Due.sentence("30: a SHEET of 36 and of 37 numbers: the last three");
        for (int size = 36; size <= 37; size++) {
            BeachIsRelaid x = new BeachIsRelaid();
            x.sheet(0, 2, size);
            x.cell(0, size - 1, 35);
            Due.due(x, OUTSIDE, "crew", 0, 2, size - 2, 1);
            Due.due(x, 0, "count", 0);
            Due.due(x, 1, "crew", 0, 2, size - 3, 1);
            Due.due(x, 35, "told", 0, 4);
        }
        Due.sentence("30: -12: what stood ahead came: none, one, two, three");
        for (int came = 0; came <= 3; came++) {
            for (int more = 0; more <= 2; more++) {
                BeachIsRelaid x = new BeachIsRelaid();
                x.sheet(0, 0, 3 * came + more);
                Due.due(x, OUTSIDE, "crew", 0, 0, 0, 4);
                Due.due(x, came, "count", 0);
                Due.due(x, Math.min(came, 4 - came), "crew", 0, 0, 0, came);
            }
        }
        Due.sentence("30: -12 with nobody left to come, too");
        BeachIsRelaid x = new BeachIsRelaid();
        x.sheet(0, 0, 12);
        Due.due(x, 4, "crew", 0, 0, 0, 4);
        Due.due(x, OUTSIDE, "crew", 0, 0, 1, 4);
        Due.due(x, OUTSIDE, "crew", 0, 0, Due.MOST, 4);
        Due.due(x, OUTSIDE, "crew", 0, 0, Due.LEAST, 4);
        Due.due(x, 4, "count", 0);
        Due.sentence("30: -12: of a SHEET of 0 numbers; n 0 is none of it");
        BeachIsRelaid y = new BeachIsRelaid();
        y.sheet(0, 0, 0);
        Due.due(y, OUTSIDE, "crew", 0, 0, 0, 1);
        Due.due(y, 0, "crew", 0, 0, 0, 0);
        Due.due(y, 0, "count", 0);
    }

    private static void taken() {
        Due.sentence("31: one of that KIND, or one under that one (also by others between): the NUMBER 0 .. 9; else -13");
        int[][] under = {{0}, {0, 1}, {0, 2}, {0, 1, 3}, {0, 2, 4}, {0, 5}};
        for (int kind = 0; kind < 6; kind++) {
            for (int number = 0; number <= 9; number += 9) {
                BeachIsRelaid x = new BeachIsRelaid();
                x.staff(0, 1, 0);
                x.staff(0, 1, 0);
                x.staff(0, 1, 0);
                x.staff(kind, number, 0);
                for (int k = 0; k < 6; k++) {
                    int want = UNLIKE;
                    for (int one : under[kind]) {
                        want = one == k ? number : want;
                    }
                    Due.due(x, want, "taken", 3, k);
                }
                Due.due(x, MISSING, "taken", 4, 0);
                Due.due(x, BAD, "taken", 3, 6);
            }
        }
    }
}
