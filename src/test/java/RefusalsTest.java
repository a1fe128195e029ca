import java.util.function.Supplier;

/**
 * Each number that a call is given: the least and the most that are taken, one below and one above them, the least and
 * the most of all. Each refusal: that the first one named is answered, and that it changes nothing.
 */
public final class RefusalsTest {
    private static final int BAD = Due.BAD, STATE = Due.STATE, FULL = Due.FULL;
    private static final int MISSING = Due.MISSING, OUTSIDE = Due.OUTSIDE, UNLIKE = Due.UNLIKE, TOO_SMALL = Due.TOO_SMALL;
    private static final long NO = Due.NO;
    private static final int LEAST = Due.LEAST, MOST = Due.MOST;
    private static final int[] ANYTHING = {LEAST, -1, 0, 1, 36, 1000, MOST};

    public static void main(String[] args) {
        set();
        staff();
        told();
        asks();
        texts();
        tides();
        nights();
        wrongAndShore();
        tour();
        best();
        tells();
        film();
        seeds();
        images();
        count();
        sheet();
        cell();
        copy();
        crew();
        taken();
        fewOfStaff();
        Due.end();
    }

    /** Behind the state, of number i the call takes least .. most alone; of all others it answers the refusal. */
    private static void bounds(Supplier<BeachIsRelaid> state, long refusal, int least, int most, int i, String call,
            int... of) {
        for (int v : new int[] {least, most}) {
            long answer = Due.ask(state.get(), call, with(of, i, v));
            Due.due(call + " takes " + v + " as number " + i + " of it, by " + answer, answer == refusal ? 1 : 0, 0);
        }
        refusesOutside(state, refusal, least, most, i, call, of);
    }

    private static void refusesOutside(Supplier<BeachIsRelaid> state, long refusal, int least, int most, int i, String call,
            int... of) {
        for (int v : new int[] {least - 1, most + 1, LEAST, MOST}) {
            Twins.refused(state, refusal, call, with(of, i, v));
        }
    }

    /** Number i of the call does not matter. */
    private static void anything(long want, int i, String call, int... of) {
        for (int v : ANYTHING) {
            Due.due(States.some(), want, call, with(of, i, v));
        }
    }

    private static int[] with(int[] of, int i, int v) {
        int[] other = of.clone();
        other[i] = v;
        return other;
    }

    private static void bad(int least, int most, int i, String call, int... of) {
        bounds(States::some, BAD, least, most, i, call, of);
    }

    private static void none(int least, int most, int i, String call, int... of) {
        bounds(States::some, NO, least, most, i, call, of);
    }

    private static void set() {
        Due.sentence("2: set: what is 0 .. 4, else BAD");
        bad(0, 4, 0, "set", 0, 0, 0);
        Due.sentence("2: set: TIDE is 0 .. 999, else BAD");
        bad(0, 999, 2, "set", 0, 0, 0);
        Due.sentence("2: set: of TIDE, of does not matter");
        anything(5, 1, "set", 0, 0, 7);
        Due.sentence("2: set: a MARK is of CELLS 0 .. 35, else BAD");
        bad(0, 35, 1, "set", 1, 0, 1);
        Due.sentence("2: set: a MARK is 0 .. 9, else BAD");
        bad(0, 9, 2, "set", 1, 35, 0);
        Due.sentence("2: set: a PLAN is of CELLS 0 .. 35, else BAD");
        bad(0, 35, 1, "set", 2, 0, 1);
        Due.sentence("2: set: a PLAN is 0 .. 9, else BAD");
        bad(0, 9, 2, "set", 2, 35, 0);
        Due.sentence("2: set: a NUMBER is of one of STAFF, else BAD");
        bad(0, 1, 1, "set", 3, 0, 1);
        Due.sentence("2: set: a NUMBER is 0 .. 9, else BAD");
        bad(0, 9, 2, "set", 3, 1, 0);
        Due.sentence("2: set: one of STAFF stands AT a CELL, else BAD");
        bad(0, 1, 1, "set", 4, 0, 1);
        Due.sentence("2: set: where one stands is CELL 0 .. 35, else BAD");
        bad(0, 35, 2, "set", 4, 1, 0);
        Due.sentence("2: set: KIND and LAID are told alone: BAD");
        Twins.refused(States::some, BAD, "set", 5, 0, 0);
        Twins.refused(States::some, BAD, "set", 6, 0, 0);
    }

    private static void staff() {
        Due.sentence("3: staff: a KIND is 0 .. 5, else BAD");
        bad(0, 5, 0, "staff", 0, 0, 0);
        Due.sentence("3: staff: a NUMBER is 0 .. 9, else BAD");
        bad(0, 9, 1, "staff", 5, 0, 35);
        Due.sentence("3: staff: one stands AT CELL 0 .. 35, else BAD");
        bad(0, 35, 2, "staff", 5, 9, 0);
        Due.sentence("3: staff: FULL: there are 4");
        Twins.refused(States::full, FULL, "staff", 0, 0, 0);
        Due.sentence("3: staff: BAD ahead of FULL");
        Twins.refused(States::full, BAD, "staff", 6, 0, 0);
        Twins.refused(States::full, BAD, "staff", 0, 10, 0);
        Twins.refused(States::full, BAD, "staff", 0, 0, 36);
    }

    private static void told() {
        Due.sentence("4: told: what is 0 .. 6, else BAD");
        bad(0, 6, 1, "told", 0, 0);
        Due.sentence("4: told: of TIDE, of does not matter");
        anything(5, 0, "told", 0, 0);
        Due.sentence("4: told: a MARK is of CELLS 0 .. 35, else BAD");
        bad(0, 35, 0, "told", 0, 1);
        Due.sentence("4: told: a PLAN is of CELLS 0 .. 35, else BAD");
        bad(0, 35, 0, "told", 0, 2);
        Due.sentence("4: told: NUMBER, where one stands, KIND, LAID are of one of STAFF, else BAD");
        for (int what = 3; what <= 6; what++) {
            bad(0, 1, 0, "told", 0, what);
        }
    }

    private static void asks() {
        Due.sentence("5: asks: of one of STAFF, else BAD");
        bad(0, 1, 0, "asks", 0, 35, 3);
        Due.sentence("5: asks: of a CELL, else BAD");
        bad(0, 35, 1, "asks", 1, 0, 0);
        Due.sentence("5: asks: what is 0 .. 3, else BAD");
        bad(0, 3, 2, "asks", 1, 35, 0);
    }

    private static void texts() {
        Due.sentence("6: feed: a byte is 0 .. 255, else BAD");
        bad(0, 255, 0, "feed", 0);
        Due.sentence("6: feed: FULL: THE TAPE has 160 bytes");
        Twins.refused(States::full, FULL, "feed", 0);
        Twins.refused(States::full, FULL, "feed", 255);
        Due.sentence("6: feed: BAD ahead of FULL");
        Twins.refused(States::full, BAD, "feed", -1);
        Twins.refused(States::full, BAD, "feed", 256);
        Due.sentence("7: text: FULL: there are 6 TEXTS; THE TAPE stays; ahead of a FAULT");
        Twins.refused(States::full, FULL, "text");
        Due.sentence("8: force: a TEXT that there is, else BAD");
        bad(0, 2, 0, "force", 0);
        bounds(States::fresh, BAD, 0, 0, 0, "force", 0);
        bounds(States::full, BAD, 0, 5, 0, "force", 0);
    }

    private static void tides() {
        Due.sentence("9: tide: a reach is 0 .. 6, else BAD");
        bad(0, 6, 0, "tide", 0);
        Due.sentence("9: tide: STATE: TIDE is 999");
        Twins.refused(States::full, STATE, "tide", 0);
        Twins.refused(States::full, STATE, "tide", 6);
        Due.sentence("9: tide: BAD ahead of STATE");
        Twins.refused(States::full, BAD, "tide", -1);
        Twins.refused(States::full, BAD, "tide", 7);
    }

    private static void nights() {
        Due.sentence("10: relay: by one of STAFF, else BAD");
        bad(0, 1, 0, "relay", 0, 35);
        Due.sentence("10: relay: a CELL, else BAD");
        bad(0, 35, 1, "relay", 1, 0);
        Due.sentence("11: night: of one of STAFF, else BAD");
        bad(0, 1, 0, "night", 0, 999);
        Due.sentence("11: night: minutes are 0 .. 999, else BAD");
        bad(0, 999, 1, "night", 1, 0);
        Due.sentence("12: run: of one of STAFF, else BAD");
        bad(0, 1, 0, "run", 0, 999, 3);
        Due.sentence("12: run: minutes are 0 .. 999, else BAD");
        bad(0, 999, 1, "run", 1, 0, 0);
        Due.sentence("12: run: what is 0 .. 3, else BAD");
        bad(0, 3, 2, "run", 1, 999, 0);
        Due.sentence("12: run: in thought: it changes nothing");
        for (int what = 0; what <= 3; what++) {
            Twins.unchanged(States::some, "run", 0, 999, what);
        }
    }

    private static void wrongAndShore() {
        Due.sentence("13: wrong: what is 0, a CELL and 10 (10 .. 45), one of STAFF and 50 (50 ..), else NO");
        none(0, 0, 0, "wrong", 0);
        none(10, 45, 0, "wrong", 0);
        none(50, 51, 0, "wrong", 0);
        bounds(States::full, NO, 50, 53, 0, "wrong", 0);
        Twins.refused(States::fresh, NO, "wrong", 50);
        Due.sentence("14: shore: what is 0 .. 5, else BAD");
        bad(0, 5, 0, "shore", 0);
        Due.sentence("14: shore: WORST is thought alone: it changes nothing");
        Twins.unchanged(States::some, "shore", 3);
        Twins.unchanged(States::some, "shore", 4);
        Twins.unchanged(States::full, "shore", 4);
    }

    private static void tour() {
        Due.sentence("15: tour: a SHEET is 0 .. 3, else BAD");
        bad(0, 3, 0, "tour", 0, 1);
        Due.sentence("15: tour: of one of STAFF, else BAD");
        bad(0, 1, 1, "tour", 3, 0);
        Due.sentence("15: tour: -11: the SHEET is missing");
        Twins.refused(States::full, MISSING, "tour", 3, 3);
        Due.sentence("15: tour: BAD (no such one) ahead of -11");
        Twins.refused(States::fresh, BAD, "tour", 0, 0);
        Twins.refused(States::full, BAD, "tour", 3, 4);
        Due.sentence("15: tour: BAD: it tells none such");
        for (int c : new int[] {-1, 36, LEAST, MOST}) {
            Twins.refused(() -> telling(2, c), BAD, "tour", 1, 0);
            Twins.refused(() -> telling(2, 0, 35, c), BAD, "tour", 1, 0);
            Twins.refused(() -> telling(2, c, 0, 35), BAD, "tour", 1, 0);
        }
        Due.sentence("15: tour: BAD: it tells one twice");
        Twins.refused(() -> telling(0, 0, 0), BAD, "tour", 1, 0);
        Twins.refused(() -> telling(1, 35, 7, 35), BAD, "tour", 1, 0);
        Twins.refused(() -> telling(2, 4, 35, 6, 35), BAD, "tour", 1, 0);
        Due.sentence("15: tour: CELLS 0 .. 35, each once, are taken");
        Due.due(telling(0, 0, 35), 10 + 10 + 2 + 2, "tour", 1, 0);
        Due.due(telling(2, 35, 0), 0 + 10 + 2 + 2, "tour", 1, 0);
        Due.sentence("15: tour: in thought: it changes nothing");
        Twins.unchanged(States::some, "tour", 0, 0);
    }

    // A clerk at CELL 35, and SHEET 1.
    private static BeachIsRelaid telling(int sort, int... items) {
        BeachIsRelaid x = new BeachIsRelaid();
        x.staff(0, 0, 35);
        Due.row(x, 1, sort, items);
        return x;
    }

    private static void best() {
        Due.sentence("16: soonest: of one of STAFF, else BAD");
        bad(0, 1, 0, "soonest", 0, 1);
        Due.sentence("16: soonest: what is 0 .. 1, else BAD");
        bad(0, 1, 1, "soonest", 1, 0);
        Due.sentence("16: soonest: STATE: more than 7 are WRONG");
        Twins.refused(States::full, STATE, "soonest", 0, 0);
        Twins.refused(States::full, STATE, "soonest", 3, 1);
        Due.sentence("16: soonest: BAD ahead of STATE");
        Twins.refused(States::full, BAD, "soonest", 4, 0);
        Twins.refused(States::full, BAD, "soonest", -1, 0);
        Twins.refused(States::full, BAD, "soonest", 0, 2);
        Twins.refused(States::full, BAD, "soonest", 0, -1);
        Due.sentence("17: together: what is 0, one of STAFF and 10 (10 ..), else BAD");
        bad(0, 0, 0, "together", 0);
        bad(10, 11, 0, "together", 0);
        Twins.refused(States::fresh, BAD, "together", 10);
        Due.sentence("17: together: STATE: more than 7 are WRONG");
        Twins.refused(States::full, STATE, "together", 0);
        Twins.refused(States::full, STATE, "together", 13);
        Due.sentence("17: together: BAD ahead of STATE");
        refusesOutside(States::full, BAD, 10, 13, 0, "together", 0);
        Twins.refused(States::full, BAD, "together", 1);
        Due.sentence("18: nearest: a CELL, else BAD");
        bad(0, 35, 0, "nearest", 0, 0);
        Due.sentence("18: nearest: what is 0 .. 1, else BAD");
        bad(0, 1, 1, "nearest", 35, 0);
        Due.sentence("18: nearest: BAD without STAFF, too");
        Twins.refused(States::fresh, BAD, "nearest", 36, 0);
        Twins.refused(States::fresh, BAD, "nearest", 0, 2);
        Due.sentence("19: share: a ROW is 0 .. 5, else NO");
        none(0, 5, 0, "share", 0, 1);
        Due.sentence("19: share: part is 0 .. 1, else NO");
        none(0, 1, 1, "share", 5, 0);
        Due.sentence("19: share: NO: none is WRONG");
        Twins.refused(States::fresh, NO, "share", 0, 0);
        Twins.refused(States::fresh, NO, "share", 5, 1);
    }

    private static void tells() {
        Due.sentence("20: tells: a SHEET is 0 .. 3, else BAD");
        bad(0, 3, 0, "tells", 0, 1, 5);
        Due.sentence("20: tells: of one of STAFF, else BAD, of REACHES too");
        for (int what = 0; what <= 6; what++) {
            bad(0, 1, 1, "tells", 3, 0, what);
        }
        Due.sentence("20: tells: what is 0 .. 6, else BAD");
        bad(0, 6, 2, "tells", 3, 1, 0);
        Due.sentence("20: tells: -11: the SHEET is missing");
        for (int what = 0; what <= 6; what++) {
            Twins.refused(States::full, MISSING, "tells", 3, 0, what);
        }
        Due.sentence("20: tells: BAD (none such, what) ahead of -11");
        Twins.refused(States::full, BAD, "tells", 3, 4, 0);
        Twins.refused(States::full, BAD, "tells", 3, 4, 6);
        Twins.refused(States::full, BAD, "tells", 3, 0, 7);
        Twins.refused(States::full, BAD, "tells", 3, 0, -1);
        Due.sentence("20: tells: BAD: it tells more than 36");
        for (int what = 0; what <= 6; what++) {
            Twins.refused(States::full, BAD, "tells", 0, 0, what);
        }
        Due.sentence("20: tells: what is told changes nothing");
        for (int what = 0; what <= 6; what++) {
            Twins.unchanged(States::some, "tells", 0, 0, what);
        }
    }

    private static void film() {
        Due.sentence("21: film: a SHEET is 0 .. 3, else BAD");
        bad(0, 3, 0, "film", 0, 1, 36);
        Due.sentence("21: film: of one of STAFF, else BAD");
        bad(0, 1, 1, "film", 3, 0, 36);
        Due.sentence("21: film: n is 0 .. 36, else BAD");
        bad(0, 36, 2, "film", 3, 1, 0);
    }

    private static void seeds() {
        Due.sentence("22: drawn: any SEED; in thought: it changes nothing");
        for (int seed : ANYTHING) {
            Twins.unchanged(States::some, "drawn", seed);
        }
        Due.sentence("23: chance: m is 1 .. 20, else NO");
        none(1, 20, 1, "chance", 7, 1, 3, 0);
        Due.sentence("23: chance: k is 0 .. 36, else NO");
        none(0, 36, 2, "chance", 7, 20, 0, 1);
        Due.sentence("23: chance: part is 0 .. 1, else NO");
        none(0, 1, 3, "chance", 7, 20, 36, 0);
        Due.sentence("23: chance: any SEED; in thought: it changes nothing");
        for (int seed : ANYTHING) {
            Twins.unchanged(States::some, "chance", seed, 20, 5, 0);
        }
    }

    private static void images() {
        Due.sentence("25: back: STATE: there is no IMAGE");
        Twins.refused(States::fresh, STATE, "back");
    }

    private static void count() {
        Due.sentence("26: count: what is 0 .. 5, else BAD");
        bad(0, 5, 0, "count", 0);
    }

    private static void sheet() {
        Due.sentence("27: sheet: a SHEET is 0 .. 3, else BAD");
        bad(0, 3, 0, "sheet", 0, 2, 40);
        bad(0, 3, 0, "sheet", 0, -1, 40);
        Due.sentence("27: sheet: a sort is 0 .. 2, or -1, else BAD");
        bad(-1, 2, 1, "sheet", 3, 0, 40);
        Due.sentence("27: sheet: of sort -1, n does not matter");
        anything(1, 2, "sheet", 3, -1, 0);
        Due.sentence("27: sheet: n is 40 at most, else BAD");
        for (int sort = 0; sort <= 2; sort++) {
            Due.due(States.some(), 1, "sheet", 3, sort, 40);
            Twins.refused(States::some, BAD, "sheet", 3, sort, 41);
            Twins.refused(States::some, BAD, "sheet", 3, sort, MOST);
        }
        Due.sentence("27: sheet: -14: n is below 0");
        for (int sort = 0; sort <= 2; sort++) {
            Due.due(States.some(), 1, "sheet", 3, sort, 0);
            Twins.refused(States::some, TOO_SMALL, "sheet", 3, sort, -1);
            Twins.refused(States::some, TOO_SMALL, "sheet", 3, sort, LEAST);
        }
        Due.sentence("27: sheet: BAD ahead of -14");
        Twins.refused(States::some, BAD, "sheet", 4, 0, -1);
        Twins.refused(States::some, BAD, "sheet", -1, 0, -1);
        Twins.refused(States::some, BAD, "sheet", 0, 3, -1);
        Twins.refused(States::some, BAD, "sheet", 0, -2, -1);
    }

    private static void cell() {
        Due.sentence("28: cell: a SHEET is 0 .. 3, else BAD");
        bad(0, 3, 0, "cell", 0, 2, 5);
        Due.sentence("28: cell: -11: the SHEET is missing");
        Twins.refused(States::full, MISSING, "cell", 3, 0, 5);
        Due.sentence("28: cell: BAD ahead of -11, -11 ahead of -12");
        Twins.refused(States::fresh, BAD, "cell", 4, -1, 5);
        Twins.refused(States::full, MISSING, "cell", 3, -1, 5);
        Due.sentence("28: cell: -12: there is no such item");
        bounds(States::some, OUTSIDE, 0, 2, 1, "cell", 3, 0, 5);
        bounds(States::full, OUTSIDE, 0, 36, 1, "cell", 0, 0, 5);
        bounds(() -> sized(40), OUTSIDE, 0, 39, 1, "cell", 0, 0, 5);
        Twins.refused(States::full, OUTSIDE, "cell", 2, 0, 5);
        Due.sentence("28: cell: any v");
        anything(1, 2, "cell", 3, 0, 0);
    }

    private static BeachIsRelaid sized(int n) {
        BeachIsRelaid x = new BeachIsRelaid();
        x.staff(2, 0, 0);
        x.sheet(0, 2, n);
        x.sheet(1, 2, n);
        return x;
    }

    private static void copy() {
        Due.sentence("29: copy: both SHEETS are 0 .. 3, else BAD");
        bad(0, 3, 0, "copy", 0, 0, 1, 1, 2);
        bad(0, 3, 2, "copy", 3, 0, 0, 1, 2);
        Due.sentence("29: copy: -11: either is missing");
        Twins.refused(States::full, MISSING, "copy", 3, 0, 1, 0, 1);
        Twins.refused(States::full, MISSING, "copy", 1, 0, 3, 0, 1);
        Twins.refused(States::full, MISSING, "copy", 3, 0, 3, 0, 0);
        Due.sentence("29: copy: BAD ahead of -11");
        Twins.refused(States::full, BAD, "copy", 3, 0, 4, 0, 1);
        Twins.refused(States::full, BAD, "copy", -1, 0, 3, 0, 1);
        Due.sentence("29: copy: -13: they are of unlike sorts");
        Twins.refused(States::full, UNLIKE, "copy", 0, 0, 1, 0, 1);
        Twins.refused(States::full, UNLIKE, "copy", 1, 0, 0, 0, 1);
        Twins.refused(States::full, UNLIKE, "copy", 1, 0, 2, 0, 0);
        Due.sentence("29: copy: -11 ahead of -13 and -12, -13 ahead of -12");
        Twins.refused(States::full, MISSING, "copy", 0, -1, 3, 0, -1);
        Twins.refused(States::full, UNLIKE, "copy", 0, -1, 1, 0, 1);
        Twins.refused(States::full, UNLIKE, "copy", 0, 0, 1, 99, 1);
        Twins.refused(States::full, UNLIKE, "copy", 0, 0, 1, 0, -1);
        Due.sentence("29: copy: -12: a place outside, also with n below 0");
        bounds(States::some, OUTSIDE, 0, 1, 1, "copy", 0, 0, 1, 0, 2);
        bounds(States::some, OUTSIDE, 0, 1, 3, "copy", 0, 0, 1, 0, 2);
        bounds(States::some, OUTSIDE, 0, 3, 4, "copy", 0, 0, 1, 0, 0);
        bounds(States::some, OUTSIDE, 0, 2, 4, "copy", 0, 1, 1, 0, 0);
        bounds(States::some, OUTSIDE, 0, 2, 4, "copy", 0, 0, 1, 1, 0);
        bounds(() -> sized(40), OUTSIDE, 0, 40, 4, "copy", 0, 0, 1, 0, 0);
        bounds(() -> sized(0), OUTSIDE, 0, 0, 4, "copy", 0, 0, 1, 0, 0);
        Due.sentence("29: copy: -12: place and n together are no int");
        Twins.refused(States::some, OUTSIDE, "copy", 0, 1, 1, 0, MOST);
        Twins.refused(States::some, OUTSIDE, "copy", 0, 0, 1, 1, MOST);
        Twins.refused(States::some, OUTSIDE, "copy", 0, MOST, 1, MOST, MOST);
        Twins.refused(States::some, OUTSIDE, "copy", 0, LEAST, 1, LEAST, LEAST);
        Twins.refused(States::some, OUTSIDE, "copy", 0, 2, 1, 2, LEAST);
    }

    private static void crew() {
        Due.sentence("30: crew: a SHEET is 0 .. 3, else BAD");
        bad(0, 3, 0, "crew", 0, 0, 0, 1);
        Due.sentence("30: crew: a sort is 0 .. 2, else BAD");
        bad(0, 2, 1, "crew", 3, 0, 0, 1);
        Due.sentence("30: crew: n is 0 .. 4, else BAD");
        bad(0, 4, 3, "crew", 3, 0, 0, 0);
        Due.sentence("30: crew: -13: it is of another sort");
        for (int sort = 0; sort <= 2; sort++) {
            for (int other = 0; other <= 2; other++) {
                int is = sort;
                if (other != sort) {
                    Twins.refused(() -> telling(is, 0, 1, 2), UNLIKE, "crew", 1, other, 0, 1);
                    Twins.refused(() -> telling(is, 0, 1, 2), UNLIKE, "crew", 1, other, 0, 0);
                } else {
                    Due.due(telling(is, 0, 1, 2), 1, "crew", 1, other, 0, 1);
                }
            }
        }
        Due.sentence("30: crew: -11: it is missing");
        for (int sort = 0; sort <= 2; sort++) {
            Twins.refused(States::full, MISSING, "crew", 3, sort, 0, 1);
            Twins.refused(States::fresh, MISSING, "crew", 3, sort, 0, 0);
        }
        Due.sentence("30: crew: BAD ahead of -13 and -11, these ahead of -12");
        Twins.refused(States::fresh, BAD, "crew", 3, 3, 0, 1);
        Twins.refused(States::fresh, BAD, "crew", 3, 0, 0, 5);
        Twins.refused(States::some, BAD, "crew", 3, 1, 0, -1);
        Twins.refused(States::some, BAD, "crew", 4, 1, 0, 1);
        Twins.refused(States::some, UNLIKE, "crew", 3, 1, -1, 1);
        Twins.refused(States::fresh, MISSING, "crew", 3, 1, -1, 1);
        Due.sentence("30: crew: -12: a place outside");
        bounds(() -> telling(2, 0, 1, 2, 3, 4), OUTSIDE, 0, 2, 2, "crew", 1, 2, 0, 1);
        bounds(() -> sized(40), OUTSIDE, 0, 37, 2, "crew", 0, 2, 0, 1);
        Twins.refused(States::full, OUTSIDE, "crew", 2, 2, 0, 1);
    }

    private static void taken() {
        Due.sentence("31: taken: a KIND is 0 .. 5, else BAD");
        bad(0, 5, 1, "taken", 1, 0);
        Due.sentence("31: taken: -11: there is no such one");
        bounds(States::some, MISSING, 0, 1, 0, "taken", 0, 0);
        bounds(States::full, MISSING, 0, 3, 0, "taken", 0, 0);
        Twins.refused(States::fresh, MISSING, "taken", 0, 0);
        Due.sentence("31: taken: BAD ahead of -11");
        Twins.refused(States::fresh, BAD, "taken", 0, 6);
        Twins.refused(States::some, BAD, "taken", 2, -1);
        Due.sentence("31: taken: -13: neither that KIND nor one under it");
        Twins.refused(States::some, UNLIKE, "taken", 0, 2);
        Twins.refused(States::some, UNLIKE, "taken", 0, 3);
        Twins.refused(States::some, UNLIKE, "taken", 1, 1);
    }

    private static void fewOfStaff() {
        Due.sentence("Terms: without STAFF there is no one 0");
        Supplier<BeachIsRelaid> fresh = States::fresh;
        Twins.refused(fresh, BAD, "set", 3, 0, 0);
        Twins.refused(fresh, BAD, "set", 4, 0, 0);
        Twins.refused(fresh, BAD, "told", 0, 3);
        Twins.refused(fresh, BAD, "told", 0, 6);
        Twins.refused(fresh, BAD, "asks", 0, 0, 0);
        Twins.refused(fresh, BAD, "relay", 0, 0);
        Twins.refused(fresh, BAD, "night", 0, 0);
        Twins.refused(fresh, BAD, "run", 0, 0, 0);
        Twins.refused(fresh, BAD, "soonest", 0, 0);
        Twins.refused(fresh, BAD, "tells", 0, 0, 6);
        Twins.refused(fresh, BAD, "film", 0, 0, 0);
        Due.sentence("Terms: with four of STAFF there is one 3, no one 4");
        fourAre("set", 1, 3, 0, 9);
        fourAre("set", 1, 4, 0, 9);
        fourAre("told", 0, 0, 3);
        fourAre("told", 0, 0, 4);
        fourAre("told", 0, 0, 5);
        fourAre("told", 0, 0, 6);
        fourAre("asks", 0, 0, 9, 0);
        fourAre("relay", 0, 0, 9);
        fourAre("night", 0, 0, 9);
        fourAre("run", 0, 0, 9, 0);
        fourAre("tour", 1, 1, 0);
        fourAre("tells", 1, 2, 0, 0);
        fourAre("film", 1, 2, 0, 9);
    }

    private static void fourAre(String call, int i, int... of) {
        bounds(States::full, BAD, 0, 3, i, call, of);
    }
}
