import java.util.Arrays;
import java.util.function.Supplier;

/** A refused call changes nothing: an object that was asked it and a twin that was not answer alike from then on. */
final class Twins {
    private static final int ITEMS_A_LOOK = 5;

    private Twins() {
    }

    static void refused(Supplier<BeachIsRelaid> state, long want, String call, int... of) {
        Due.due(state.get(), want, call, of);
        unchanged(state, call, of);
    }

    /** The call, refused or not, changes nothing of what a look can see. */
    static void unchanged(Supplier<BeachIsRelaid> state, String call, int... of) {
        int looks = looks();
        int different = 0;
        for (int look = 0; look < looks; look++) {
            BeachIsRelaid asked = state.get();
            BeachIsRelaid twin = state.get();
            Due.ask(asked, call, of);
            different += Arrays.equals(look(asked, look), look(twin, look)) ? 0 : 1;
        }
        Due.due("looks by which " + call + Arrays.toString(of) + " changed something", different, 0);
    }

    // Many small looks, each at an object of its own, so that no object is asked more than it is made for.
    private static int looks() {
        return 4 + 4 * (40 / ITEMS_A_LOOK);
    }

    private static long[] look(BeachIsRelaid x, int look) {
        Seen seen = new Seen();
        switch (look) {
            case 0: shore(x, seen); break;
            case 1: image(x, seen); break;
            case 2: tape(x, seen); break;
            case 3: texts(x, seen); break;
            default: sheet(x, (look - 4) % 4, (look - 4) / 4 * ITEMS_A_LOOK, seen); break;
        }
        return Arrays.copyOf(seen.answers, seen.many);
    }

    private static final class Seen {
        final long[] answers = new long[Due.CALLS];
        int many = 0;

        long add(long answer) {
            answers[many++] = answer;
            return answer;
        }
    }

    private static void shore(BeachIsRelaid x, Seen seen) {
        for (int c = 0; c < 36; c++) {
            seen.add(x.told(c, 1));
            seen.add(x.told(c, 2));
        }
        for (int one = 0; one < 4; one++) {
            for (int what = 3; what <= 6; what++) {
                seen.add(x.told(one, what));
            }
        }
        for (int what = 0; what < 6; what++) {
            seen.add(x.count(what));
        }
    }

    private static void image(BeachIsRelaid x, Seen seen) {
        seen.add(x.back());
        shore(x, seen);
    }

    private static void tape(BeachIsRelaid x, Seen seen) {
        seen.add(x.count(4));
        for (char letter : " 5 ;".toCharArray()) {
            seen.add(x.feed(letter));
        }
        seen.add(x.text());
        x.force(x.count(3) - 1);
        x.staff(0, 0, 0);
        for (int c = 0; c < 36; c += 7) {
            seen.add(x.asks(0, c, 0));
            seen.add(x.asks(0, c, 1));
        }
        seen.add(x.tide(6));
        for (int c = 0; c < 36; c += 7) {
            seen.add(x.told(c, 1));
        }
    }

    private static void texts(BeachIsRelaid x, Seen seen) {
        x.staff(0, 1, 7);
        for (int text = 0; text < 6; text++) {
            seen.add(x.force(text));
            for (int c = 0; c < 36; c += 7) {
                seen.add(x.asks(0, c, 0));
                seen.add(x.asks(0, c, 1));
            }
            for (int reach = 3; reach <= 4; reach++) {
                seen.add(x.shore(reach));
            }
        }
    }

    // Its sort, its size, and of some items which number of 0 .. 35 each is: no call tells others apart.
    private static void sheet(BeachIsRelaid x, int sheet, int from, Seen seen) {
        int sort = Due.NONE;
        for (int k = 0; k < 3; k++) {
            sort = seen.add(x.crew(sheet, k, 0, 0)) == 0 ? k : sort;
        }
        for (int i : new int[] {0, 1, 2, 3, 35, 36, 37, 39}) {
            seen.add(x.copy(sheet, i, sheet, i, 1));
        }
        int other = sheet == 0 ? 1 : 0;
        x.force(0);
        x.staff(2, 0, 0);
        x.set(3, 0, 1);
        x.sheet(other, sort, 1);
        for (int i = from; i < from + ITEMS_A_LOOK; i++) {
            seen.add(x.copy(sheet, i, other, 0, 1));
            // whoever it is, by text 0 one lays what is planned on cell 0
            for (int v = 0; v < 10; v++) {
                x.set(2, 0, v);
                seen.add(x.tells(other, 0, 0));
            }
            x.set(4, 0, 0);
            seen.add(x.tour(other, 0));
            x.set(4, 0, 5);
            seen.add(x.tour(other, 0));
        }
    }
}
