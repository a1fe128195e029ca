import java.lang.reflect.Method;
import java.lang.reflect.Modifier;
import java.util.ArrayList;
import java.util.Arrays;
import java.util.List;
import java.util.Map;
import java.util.TreeMap;

/** Sentences of the document, the calls that show whether they hold, and the answers that are due. */
final class Due {
    static final int NONE = -1, BAD = -2, STATE = -3, FULL = -4;
    static final int MISSING = -11, OUTSIDE = -12, UNLIKE = -13, TOO_SMALL = -14;
    static final long NO = -4611686018427387904L;
    static final int LEAST = Integer.MIN_VALUE, MOST = Integer.MAX_VALUE;
    /** An object is used for so many calls; what later ones answer is free, so no test asks them. */
    static final int CALLS = 512;

    private static final Map<String, Method> FACE = new TreeMap<>();
    private static final List<String> sentences = new ArrayList<>();
    private static int answersOfThis = 1;
    private static int answers = 0;
    private static int wrong = 0;

    static {
        for (Method m : BeachIsRelaid.class.getDeclaredMethods()) {
            if (Modifier.isPublic(m.getModifiers())) {
                FACE.put(m.getName(), m);
            }
        }
    }

    private Due() {
    }

    /** What is asked from here on shows this sentence. */
    static void sentence(String words) {
        noneIsEmpty();
        if (sentences.contains(words)) {
            fault("told twice");
        }
        sentences.add(words);
        answersOfThis = 0;
    }

    private static void noneIsEmpty() {
        if (answersOfThis == 0) {
            fault("nothing was asked");
        }
    }

    private static void fault(String what) {
        wrong++;
        String sentence = sentences.isEmpty() ? "" : sentences.get(sentences.size() - 1);
        System.out.println("[" + sentence + "] " + what);
    }

    static void due(String what, long got, long want) {
        answers++;
        answersOfThis++;
        if (got != want) {
            fault(what + " answered " + got + ", due is " + want);
        }
    }

    static void due(BeachIsRelaid x, long want, String call, int... of) {
        due(call + Arrays.toString(of), ask(x, call, of), want);
    }

    static long ask(BeachIsRelaid x, String call, int... of) {
        try {
            return ((Number) FACE.get(call).invoke(x, Arrays.stream(of).boxed().toArray())).longValue();
        } catch (ReflectiveOperationException e) {
            throw new IllegalStateException(call + Arrays.toString(of), e);
        }
    }

    /** Of each promise, 1 to the last, there is a sentence, which begins with its number. */
    static void allOf(int last) {
        for (int i = 1; i <= last; i++) {
            String begin = i + ":";
            if (sentences.stream().noneMatch(s -> s.startsWith(begin))) {
                fault("no sentence of promise " + i);
            }
        }
    }

    /** To be called last: says how it went, and ends with 1 if anything was not as due. */
    static void end() {
        noneIsEmpty();
        System.out.println(wrong == 0 ? sentences.size() + " sentences hold, by " + answers + " answers"
            : wrong + " things are not as due");
        if (wrong != 0) {
            System.exit(1);
        }
    }

    // ---- what tests do again and again

    static void feed(BeachIsRelaid x, String bytes) {
        for (int i = 0; i < bytes.length(); i++) {
            x.feed(bytes.charAt(i));
        }
    }

    static int read(BeachIsRelaid x, String text) {
        feed(x, text);
        return x.text();
    }

    /** A new object by a text that was read and is the rule. */
    static BeachIsRelaid by(String text) {
        BeachIsRelaid x = new BeachIsRelaid();
        if (read(x, text) != 1 || x.force(1) != 0) {
            fault("the text '" + text + "' was not taken");
        }
        return x;
    }

    static void plans(BeachIsRelaid x, int v, int... cells) {
        for (int c : cells) {
            x.set(2, c, v);
        }
    }

    static void marks(BeachIsRelaid x, int v, int... cells) {
        for (int c : cells) {
            x.set(1, c, v);
        }
    }

    static int[] cells(int from, int till) {
        int[] all = new int[till - from];
        for (int i = 0; i < all.length; i++) {
            all[i] = from + i;
        }
        return all;
    }

    static void row(BeachIsRelaid x, int sheet, int sort, int... items) {
        x.sheet(sheet, sort, items.length);
        for (int i = 0; i < items.length; i++) {
            x.cell(sheet, i, items[i]);
        }
    }

    static long bits(int... cells) {
        long all = 0;
        for (int c : cells) {
            all |= 1L << c;
        }
        return all;
    }
}
