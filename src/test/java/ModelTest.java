import java.util.ArrayDeque;
import java.util.ArrayList;
import java.util.Arrays;
import java.util.List;

/**
 * Long runs of drawn calls, each answered by the program and by a model that is written otherwise: kinds are classes
 * under each other, a text is read by one stack, orders and ways are all tried.
 */
public final class ModelTest {
    private static final int RUNS = 1500, CALLS = 512, TEXTS_READ = 60000;
    private static long state = 20261118;
    private static int wrong = 0;
    private static final int[] asked = new int[31];
    private static final int[] unrefused = new int[31];

    private static int draw(int n) {
        state = state * 6364136223846793005L + 1442695040888963407L;
        return (int) ((state >>> 33) % n);
    }

    public static void main(String[] args) {
        for (int i = 0; i < TEXTS_READ && wrong == 0; i++) {
            readOne();
        }
        for (int i = 0; i < RUNS && wrong == 0; i++) {
            runOne(i);
        }
        for (int i = 1; i < asked.length; i++) {
            if (unrefused[i] == 0) {
                wrong++;
                System.out.println("call " + i + " was never answered but by a refusal, of " + asked[i]);
            }
        }
        System.out.println(wrong == 0 ? "the program answers as the model" : wrong + " differences");
        if (wrong != 0) {
            System.exit(1);
        }
    }

    // ---- drawn texts

    private static String spaced(String text) {
        switch (draw(6)) {
            case 0: return text + " ";
            case 1: return text + "\n";
            case 2: return " " + text + " ";
            default: return text.isEmpty() || !Character.isLetter(text.charAt(text.length() - 1)) ? text : text + " ";
        }
    }

    private static String drawnE(int depth) {
        StringBuilder b = new StringBuilder();
        if (draw(8) == 0) {
            b.append(spaced("not"));
        }
        int many = 1 + draw(3);
        for (int i = 0; i < many; i++) {
            if (i > 0) {
                String[] signs = {"+", "-", "*", "<", "=", "and", "or"};
                String sign = signs[draw(7)];
                b.append(sign.length() > 1 ? " " : "").append(spaced(sign));
                if (sign.length() > 1 && draw(3) == 0) {
                    b.append(spaced("not"));
                }
            }
            b.append(drawnOne(depth));
        }
        return b.toString();
    }

    private static String drawnOne(int depth) {
        int sort = draw(10);
        if (sort < 3) {
            return spaced(String.valueOf(draw(3) == 0 ? draw(10000) : draw(10)));
        }
        if (sort < 7) {
            return spaced(new String[] {"mark", "row", "column", "tide", "number", "beside"}[draw(6)]);
        }
        if (sort == 7) {
            return spaced("-") + drawnOne(depth);
        }
        return depth > 4 ? "1" : "(" + drawnE(depth + 1) + spaced(")");
    }

    private static String drawnText() {
        return spaced("takes") + " " + drawnE(0) + spaced(";") + spaced("lays") + " " + drawnE(0) + spaced(";")
            + spaced("leaves") + " " + drawnE(0) + spaced(";");
    }

    private static String spoiled(String text) {
        StringBuilder b = new StringBuilder(text);
        for (int i = draw(3); i >= 0 && b.length() > 0; i--) {
            int at = draw(b.length());
            switch (draw(5)) {
                case 0: b.deleteCharAt(at); break;
                case 1: b.setLength(at); break;
                case 2: b.insert(at, new String[] {"(", ")", "-", " not ", ";", "9", "<", "=", "or", "?"}[draw(10)]); break;
                case 3: b.setCharAt(at, (char) draw(256)); break;
                default: b.insert(at, "((((-- not not --(((".substring(draw(12))); break;
            }
        }
        return b.toString();
    }

    private static void readOne() {
        String text = drawnText();
        if (draw(3) != 0) {
            text = spoiled(text);
        }
        if (text.length() > 160) {
            text = text.substring(0, 160);
        }
        BeachIsRelaid x = new BeachIsRelaid();
        Model m = new Model();
        for (int i = 0; i < text.length(); i++) {
            x.feed(text.charAt(i));
            m.tape.append(text.charAt(i));
        }
        int got = x.text();
        int want = m.text();
        if (got != want) {
            wrong++;
            System.out.println("text of '" + text + "' answered " + got + ", the model " + want);
        }
    }

    // ---- drawn calls

    private static int near(int least, int most) {
        return draw(12) == 0 ? new int[] {least - 1, most + 1, Integer.MIN_VALUE, Integer.MAX_VALUE}[draw(4)]
            : least + draw(most - least + 1);
    }

    private static void runOne(int run) {
        BeachIsRelaid x = new BeachIsRelaid();
        Model m = new Model();
        int few = draw(3);
        int[] pending = {};
        int fed = 0;
        List<String> told = new ArrayList<>();
        for (int i = 0; i < CALLS && wrong == 0; i++) {
            int[] a;
            if (fed < pending.length) {
                a = new int[] {6, pending[fed++]};
            } else if (fed > 0) {
                a = new int[] {7};
                pending = new int[0];
                fed = 0;
            } else {
                a = drawnCall(few);
                if (a[0] == 6 && draw(2) == 0) {
                    String text = draw(8) == 0 ? spoiled(drawnText()) : drawnText();
                    pending = text.chars().limit(160).toArray();
                }
            }
            long got = answer(x, a);
            long want = m.answer(a);
            told.add(Arrays.toString(a) + " -> " + got);
            asked[a[0] - 1]++;
            unrefused[a[0] - 1] += want >= 0 ? 1 : 0;
            if (got != want) {
                wrong++;
                System.out.println("run " + run + ", call " + i + ": " + Arrays.toString(a) + " answered " + got
                    + ", the model " + want + ", behind\n" + String.join("\n", told));
            }
        }
    }

    private static int[] drawnSet(int few) {
        int what = draw(few == 2 ? 5 : 12) < 3 ? draw(5) : near(1, 2);
        int most = what == 0 ? draw(3) == 0 ? 999 : 5 : what == 4 ? 35 : 9;
        int of = what == 1 || what == 2 ? near(0, 35) : near(0, 3);
        int v = few == 0 && (what == 1 || what == 2) && draw(3) != 0 ? 0 : near(0, most);
        return new int[] {2, what, of, v};
    }

    private static int[] drawnCall(int few) {
        int sort = draw(44);
        if (sort > 30) {
            return sort > 42 ? new int[] {6, 32} : drawnSet(few);
        }
        int one = draw(20) == 0 ? near(-1, 4) : draw(2);
        switch (sort) {
            case 0: return new int[] {3, near(0, 5), near(0, 9), near(0, 35)};
            case 1: return new int[] {4, near(0, 35), near(0, 2)};
            case 2: return new int[] {5, one, near(0, 35), near(0, 3)};
            case 3: return new int[] {4, one, near(0, 6)};
            case 4: return new int[] {28, near(0, 3), near(0, 8), near(0, 35)};
            case 5: return new int[] {8, near(0, 3)};
            case 6: return new int[] {9, near(0, 6)};
            case 7: return new int[] {10, one, near(0, 35)};
            case 8: return new int[] {11, one, draw(3) == 0 ? near(0, 999) : near(0, 40)};
            case 9: return new int[] {12, one, draw(3) == 0 ? near(0, 999) : near(0, 60), near(0, 3)};
            case 10: return new int[] {13, draw(3) == 0 ? 0 : draw(2) == 0 ? near(10, 45) : near(50, 53)};
            case 11: return new int[] {14, near(0, 5)};
            case 12: return new int[] {15, near(0, 3), one};
            case 13: return new int[] {16, one, near(0, 1)};
            case 14: return new int[] {17, draw(2) == 0 ? 0 : near(10, 13)};
            case 15: return new int[] {18, near(0, 35), near(0, 1)};
            case 16: return new int[] {19, near(0, 5), near(0, 1)};
            case 17:
            case 18: return new int[] {20, near(0, 3), one, near(0, 6)};
            case 19: return new int[] {21, near(0, 3), one, draw(2) == 0 ? near(0, 36) : near(0, 3)};
            case 20: return new int[] {22, draw(2) == 0 ? near(0, 99) : draw(1 << 30) * 3};
            case 21: return new int[] {23, near(0, 9999999), near(1, 20), draw(3) == 0 ? near(0, 36) : near(0, 9), near(0, 1)};
            case 22: return new int[] {draw(3) == 0 ? 24 : 25};
            case 23: return new int[] {26, near(0, 5)};
            case 24: return new int[] {27, near(0, 3), near(-1, 2), draw(3) == 0 ? near(0, 40) : near(0, 9)};
            case 25:
            case 26: return new int[] {28, near(0, 3), near(0, 8), draw(9) == 0 ? near(-300, 70000) : near(0, 9)};
            case 27: return new int[] {29, near(0, 3), near(0, 3), near(0, 3), near(0, 3), near(0, 6)};
            case 28: return new int[] {30, near(0, 3), near(0, 2), near(0, 6), near(0, 4)};
            case 29: return new int[] {31, one, near(0, 5)};
            default: return new int[] {7};
        }
    }

    private static long answer(BeachIsRelaid x, int[] a) {
        switch (a[0]) {
            case 2: return x.set(a[1], a[2], a[3]);
            case 3: return x.staff(a[1], a[2], a[3]);
            case 4: return x.told(a[1], a[2]);
            case 5: return x.asks(a[1], a[2], a[3]);
            case 6: return x.feed(a[1]);
            case 7: return x.text();
            case 8: return x.force(a[1]);
            case 9: return x.tide(a[1]);
            case 10: return x.relay(a[1], a[2]);
            case 11: return x.night(a[1], a[2]);
            case 12: return x.run(a[1], a[2], a[3]);
            case 13: return x.wrong(a[1]);
            case 14: return x.shore(a[1]);
            case 15: return x.tour(a[1], a[2]);
            case 16: return x.soonest(a[1], a[2]);
            case 17: return x.together(a[1]);
            case 18: return x.nearest(a[1], a[2]);
            case 19: return x.share(a[1], a[2]);
            case 20: return x.tells(a[1], a[2], a[3]);
            case 21: return x.film(a[1], a[2], a[3]);
            case 22: return x.drawn(a[1]);
            case 23: return x.chance(a[1], a[2], a[3], a[4]);
            case 24: return x.image();
            case 25: return x.back();
            case 26: return x.count(a[1]);
            case 27: return x.sheet(a[1], a[2], a[3]);
            case 28: return x.cell(a[1], a[2], a[3]);
            case 29: return x.copy(a[1], a[2], a[3], a[4], a[5]);
            case 30: return x.crew(a[1], a[2], a[3], a[4]);
            default: return x.taken(a[1], a[2]);
        }
    }

    // ---- the model: kinds

    private static class Clerk {
        int number;
        int at;
        int laid;

        int takes(int v, int plan) {
            return v;
        }

        int lays(int v, int plan, int c) {
            return v;
        }

        int kind() {
            return 0;
        }
    }

    private static class Boy extends Clerk {
        @Override int takes(int v, int plan) {
            return super.takes(v, plan) / 2;
        }

        @Override int lays(int v, int plan, int c) {
            int clerk = super.lays(v, plan, c);
            return (c & 1) == 0 ? clerk : clerk >= 9 ? 9 : clerk + 1;
        }

        @Override int kind() {
            return 1;
        }
    }

    private static class Master extends Clerk {
        @Override int takes(int v, int plan) {
            return super.takes(v, plan) * 2;
        }

        @Override int lays(int v, int plan, int c) {
            return plan;
        }

        @Override int kind() {
            return 2;
        }
    }

    private static class Lad extends Boy {
        @Override int takes(int v, int plan) {
            return super.takes(v, plan) + (plan == 0 ? 1 : 0);
        }

        @Override int lays(int v, int plan, int c) {
            return c / 6 == number ? 0 : super.lays(v, plan, c);
        }

        @Override int kind() {
            return 3;
        }
    }

    private static class Girl extends Master {
        @Override int takes(int v, int plan) {
            return plan == 9 ? 1 : super.takes(v, plan);
        }

        @Override int kind() {
            return 4;
        }
    }

    private static class Stout extends Clerk {
        @Override int takes(int v, int plan) {
            return super.takes(v, plan) + number;
        }

        @Override int lays(int v, int plan, int c) {
            int clerk = super.lays(v, plan, c);
            return clerk == plan ? clerk : 0;
        }

        @Override int kind() {
            return 5;
        }
    }

    private static Clerk clerkOf(int kind, int number, int at, int laid) {
        Clerk[] kinds = {new Clerk(), new Boy(), new Master(), new Lad(), new Girl(), new Stout()};
        Clerk one = kinds[kind];
        one.number = number;
        one.at = at;
        one.laid = laid;
        return one;
    }

    private static final class Token {
        final String word;
        final int place;

        Token(String word, int place) {
            this.word = word;
            this.place = place;
        }
    }

    // ---- the model

    private static final class Model {
        static final List<String> NAMES = List.of("mark", "row", "column", "tide", "number", "beside");
        static final List<String> WORDS = List.of("mark", "row", "column", "tide", "number", "beside",
            "takes", "lays", "leaves", "or", "and", "not");

        int[] mark = new int[36];
        int[] plan = new int[36];
        int tide;
        int rule;
        List<Clerk> staff = new ArrayList<>();
        final List<List<List<Token>>> texts = new ArrayList<>();
        StringBuilder tape = new StringBuilder();
        Model image;
        final int[][] sheets = new int[4][];
        final int[] sorts = {-1, -1, -1, -1};

        Model() {
            tape.append("takes 2 + mark ; lays mark ; leaves 0 ;");
            text();
        }

        private Model(Model other) {
            mark = other.mark.clone();
            plan = other.plan.clone();
            tide = other.tide;
            rule = other.rule;
            for (Clerk one : other.staff) {
                staff.add(clerkOf(one.kind(), one.number, one.at, one.laid));
            }
            texts.addAll(other.texts);
        }

        Model thought() {
            return new Model(this);
        }

        boolean noOne(int one) {
            return one < 0 || one >= staff.size();
        }

        static boolean out(int v, int least, int most) {
            return v < least || v > most;
        }

        // -- reading by one stack of what is open

        int text() {
            if (texts.size() == 6) {
                return -4;
            }
            String all = tape.toString();
            tape = new StringBuilder();
            List<Token> tokens = new ArrayList<>();
            int place = 0;
            while (place < all.length()) {
                int end = place + 1;
                char letter = all.charAt(place);
                if (letter == ' ' || letter == '\n') {
                    place++;
                    continue;
                }
                String set = letter >= 'a' && letter <= 'z' ? "abcdefghijklmnopqrstuvwxyz"
                    : letter >= '0' && letter <= '9' ? "0123456789" : "";
                while (end < all.length() && set.indexOf(all.charAt(end)) >= 0) {
                    end++;
                }
                tokens.add(new Token(all.substring(place, end), place));
                place = end;
            }
            tokens.add(new Token("", all.length()));
            int fault = faultOf(tokens);
            return fault >= 0 ? -100 - fault : texts.size() - 1;
        }

        private int faultOf(List<Token> tokens) {
            List<List<Token>> parts = new ArrayList<>();
            int t = 0;
            for (String key : List.of("takes", "lays", "leaves")) {
                if (!tokens.get(t).word.equals(key)) {
                    return tokens.get(t).place;
                }
                t++;
                int end = endOfE(tokens, t);
                if (end < 0) {
                    return -1 - end;
                }
                parts.add(tokens.subList(t, end));
                t = end + 1;
            }
            if (!tokens.get(t).word.isEmpty()) {
                return tokens.get(t).place;
            }
            texts.add(parts);
            return -1;
        }

        private static void close(ArrayDeque<String> open, String which) {
            while (!open.isEmpty() && open.peek().equals(which)) {
                open.pop();
            }
        }

        /** The index of the ; behind an E, or -1 less the place of the fault. */
        private int endOfE(List<Token> tokens, int from) {
            ArrayDeque<String> open = new ArrayDeque<>();
            ArrayDeque<Boolean> outerCompared = new ArrayDeque<>();
            boolean compared = false;
            boolean wantsOne = true;
            boolean mayNot = true;
            for (int t = from;; t++) {
                String word = tokens.get(t).word;
                int fault = -1 - tokens.get(t).place;
                boolean operand = NAMES.contains(word) || word.matches("[0-9]{1,4}");
                if (wantsOne) {
                    if (operand) {
                        close(open, "-");
                        wantsOne = false;
                    } else if ((word.equals("-") || word.equals("(") || word.equals("not") && mayNot) && open.size() < 5) {
                        open.push(word);
                        mayNot = !word.equals("-");
                        if (word.equals("(")) {
                            outerCompared.push(compared);
                            compared = false;
                        }
                    } else {
                        return fault;
                    }
                    continue;
                }
                if (List.of("+", "-", "*").contains(word)) {
                    wantsOne = true;
                    mayNot = false;
                } else if (List.of("<", "=").contains(word) && !compared) {
                    compared = true;
                    wantsOne = true;
                    mayNot = false;
                } else if (List.of("or", "and").contains(word)) {
                    close(open, "not");
                    compared = false;
                    wantsOne = true;
                    mayNot = true;
                } else if (word.equals(")")) {
                    close(open, "not");
                    if (open.isEmpty()) {
                        return fault;
                    }
                    open.pop();
                    compared = outerCompared.pop();
                    close(open, "-");
                } else if (word.equals(";")) {
                    close(open, "not");
                    return open.isEmpty() ? t : fault;
                } else {
                    return fault;
                }
            }
        }

        // -- what an E comes to, by two stacks

        private static int strength(String sign) {
            switch (sign) {
                case "or": return 1;
                case "and": return 2;
                case "not": return 3;
                case "<":
                case "=": return 4;
                case "+":
                case "-": return 5;
                case "*": return 6;
                case "~": return 7;
                default: return 0;
            }
        }

        private static void apply(ArrayDeque<String> signs, ArrayDeque<Integer> values) {
            String sign = signs.pop();
            int b = values.pop();
            if (sign.equals("not") || sign.equals("~")) {
                values.push(sign.equals("~") ? -b : b == 0 ? 1 : 0);
                return;
            }
            int a = values.pop();
            switch (sign) {
                case "or": values.push((a == 0 && b == 0) ? 0 : 1); break;
                case "and": values.push((a == 0 || b == 0) ? 0 : 1); break;
                case "<": values.push(a < b ? 1 : 0); break;
                case "=": values.push(a == b ? 1 : 0); break;
                case "+": values.push(a + b); break;
                case "-": values.push(a - b); break;
                default: values.push(a * b); break;
            }
        }

        private int worth(int part, int c, int marked, int number) {
            int[] names = {marked, c / 6, c % 6, tide, number, beside(c)};
            ArrayDeque<String> signs = new ArrayDeque<>();
            ArrayDeque<Integer> values = new ArrayDeque<>();
            boolean wantsOne = true;
            for (Token token : texts.get(rule).get(part)) {
                String word = token.word;
                if (NAMES.contains(word) || Character.isDigit(word.charAt(0))) {
                    values.push(NAMES.contains(word) ? names[NAMES.indexOf(word)] : Integer.parseInt(word));
                    wantsOne = false;
                } else if (word.equals("(") || word.equals("not")) {
                    signs.push(word);
                } else if (wantsOne) {
                    signs.push("~");
                } else if (word.equals(")")) {
                    while (!signs.peek().equals("(")) {
                        apply(signs, values);
                    }
                    signs.pop();
                } else {
                    while (!signs.isEmpty() && strength(signs.peek()) >= strength(word)) {
                        apply(signs, values);
                    }
                    signs.push(word);
                    wantsOne = true;
                }
            }
            while (!signs.isEmpty()) {
                apply(signs, values);
            }
            return values.pop();
        }

        private static int clamp(int v, int least, int most) {
            return v < least ? least : v > most ? most : v;
        }

        private static boolean areBeside(int a, int b) {
            return away(a, b) == 1;
        }

        private static int away(int a, int b) {
            return Math.abs(a / 6 - b / 6) + Math.abs(a % 6 - b % 6);
        }

        private boolean isWrong(int c) {
            return mark[c] != plan[c];
        }

        private List<Integer> wrongs() {
            List<Integer> all = new ArrayList<>();
            for (int c = 0; c < 36; c++) {
                if (isWrong(c)) {
                    all.add(c);
                }
            }
            return all;
        }

        private int beside(int c) {
            return (int) wrongs().stream().filter(w -> areBeside(c, w)).count();
        }

        int takes(Clerk one, int c) {
            return clamp(one.takes(clamp(worth(0, c, plan[c], one.number), 0, 99), plan[c]), 1, 99);
        }

        int lays(Clerk one, int c) {
            return clamp(one.lays(clamp(worth(1, c, plan[c], one.number), 0, 9), plan[c], c), 0, 9);
        }

        int minutes(Clerk one, int c) {
            return away(one.at, c) + takes(one, c);
        }

        int relaid(Clerk one, int c) {
            int minutes = minutes(one, c);
            int lays = lays(one, c);
            mark[c] = lays;
            one.at = c;
            one.laid = one.laid == 9999 ? 9999 : one.laid + 1;
            return minutes;
        }

        int[] night(Clerk one, int m) {
            List<Integer> done = new ArrayList<>();
            int spent = 0;
            while (true) {
                List<Integer> open = wrongs();
                open.removeAll(done);
                open.sort((a, b) -> away(one.at, a) != away(one.at, b) ? away(one.at, a) - away(one.at, b) : a - b);
                if (open.isEmpty() || spent + minutes(one, open.get(0)) > m) {
                    return new int[] {spent, done.size()};
                }
                spent += relaid(one, open.get(0));
                done.add(open.get(0));
            }
        }

        int flooded(int reach) {
            int[] then = mark.clone();
            for (int c = 0; c < 36; c++) {
                if (5 - c / 6 < reach) {
                    then[c] = clamp(worth(2, c, mark[c], 0), 0, 9);
                }
            }
            mark = then;
            tide++;
            return wrongs().size();
        }

        List<Integer> heap(int c) {
            List<Integer> heap = new ArrayList<>();
            if (isWrong(c)) {
                heap.add(c);
            }
            for (int i = 0; i < heap.size(); i++) {
                for (int w : wrongs()) {
                    if (areBeside(heap.get(i), w) && !heap.contains(w)) {
                        heap.add(w);
                    }
                }
            }
            return heap;
        }

        static long bits(List<Integer> cells) {
            long all = 0;
            for (int c : cells) {
                all |= 1L << c;
            }
            return all;
        }

        long answer(int[] a) {
            switch (a[0]) {
                case 2: return set(a[1], a[2], a[3]);
                case 3: return join(a[1], a[2], a[3]);
                case 4: return told(a[1], a[2]);
                case 5: return asks(a[1], a[2], a[3]);
                case 6: return feed(a[1]);
                case 7: return text();
                case 8: return force(a[1]);
                case 9: return out(a[1], 0, 6) ? -2 : tide == 999 ? -3 : flooded(a[1]);
                case 10: return noOne(a[1]) || out(a[2], 0, 35) ? -2 : relaid(staff.get(a[1]), a[2]);
                case 11: return noOne(a[1]) || out(a[2], 0, 999) ? -2 : night(staff.get(a[1]), a[2])[1];
                case 12: return run(a[1], a[2], a[3]);
                case 13: return wrong(a[1]);
                case 14: return shore(a[1]);
                case 15: return tour(a[1], a[2]);
                case 16: return soonest(a[1], a[2]);
                case 17: return together(a[1]);
                case 18: return nearest(a[1], a[2]);
                case 19: return share(a[1], a[2]);
                case 20: return tells(a[1], a[2], a[3]);
                case 21: return film(a[1], a[2], a[3]);
                case 22: return thought().flooded(((a[1] * 1103515245 + 12345) >>> 9) % 7);
                case 23: return chance(a[1], a[2], a[3], a[4]);
                case 24: image = thought(); return staff.size();
                case 25: return back();
                case 26: return count(a[1]);
                case 27: return sheet(a[1], a[2], a[3]);
                case 28: return cell(a[1], a[2], a[3]);
                case 29: return copy(a[1], a[2], a[3], a[4], a[5]);
                case 30: return crew(a[1], a[2], a[3], a[4]);
                default: return taken(a[1], a[2]);
            }
        }

        int set(int what, int of, int v) {
            int[] most = {999, 9, 9, 9, 35};
            if (out(what, 0, 4) || out(v, 0, most[what]) || told(of, what) == -2) {
                return -2;
            }
            int was = told(of, what);
            switch (what) {
                case 0: tide = v; break;
                case 1: mark[of] = v; break;
                case 2: plan[of] = v; break;
                case 3: staff.get(of).number = v; break;
                default: staff.get(of).at = v; break;
            }
            return was;
        }

        int told(int of, int what) {
            if (out(what, 0, 6) || (what == 1 || what == 2) && out(of, 0, 35) || what > 2 && noOne(of)) {
                return -2;
            }
            Clerk one = what > 2 ? staff.get(of) : new Clerk();
            switch (what) {
                case 0: return tide;
                case 1: return mark[of];
                case 2: return plan[of];
                case 3: return one.number;
                case 4: return one.at;
                case 5: return one.kind();
                default: return one.laid;
            }
        }

        int join(int kind, int number, int on) {
            if (out(kind, 0, 5) || out(number, 0, 9) || out(on, 0, 35)) {
                return -2;
            }
            if (staff.size() == 4) {
                return -4;
            }
            staff.add(clerkOf(kind, number, on, 0));
            return staff.size() - 1;
        }

        int asks(int number, int c, int what) {
            if (noOne(number) || out(c, 0, 35) || out(what, 0, 3)) {
                return -2;
            }
            Clerk one = staff.get(number);
            return new int[] {takes(one, c), lays(one, c), away(one.at, c), minutes(one, c)}[what];
        }

        int feed(int letter) {
            if (out(letter, 0, 255)) {
                return -2;
            }
            if (tape.length() == 160) {
                return -4;
            }
            return tape.append((char) letter).length();
        }

        int force(int text) {
            if (out(text, 0, texts.size() - 1)) {
                return -2;
            }
            int was = rule;
            rule = text;
            return was;
        }

        int run(int one, int m, int what) {
            if (noOne(one) || out(m, 0, 999) || out(what, 0, 3)) {
                return -2;
            }
            Model then = thought();
            int[] night = then.night(then.staff.get(one), m);
            return new int[] {night[0], night[1], then.wrongs().size(), then.staff.get(one).at}[what];
        }

        long wrong(int what) {
            if (what == 0) {
                return bits(wrongs());
            }
            if (!out(what, 10, 45)) {
                return bits(heap(what - 10));
            }
            if (what < 50 || noOne(what - 50)) {
                return -4611686018427387904L;
            }
            long all = 0;
            for (int c = 0; c < 36; c++) {
                all |= lays(staff.get(what - 50), c) == plan[c] ? 1L << c : 0;
            }
            return all;
        }

        int shore(int what) {
            List<Long> heaps = new ArrayList<>();
            int greatest = 0;
            for (int c : wrongs()) {
                if (!heaps.contains(bits(heap(c)))) {
                    heaps.add(bits(heap(c)));
                    greatest = Math.max(greatest, heap(c).size());
                }
            }
            int reach = 0;
            int most = 0;
            for (int r = 6; r >= 0; r--) {
                int then = thought().flooded(r);
                if (then >= most) {
                    most = then;
                    reach = r;
                }
            }
            int first = wrongs().isEmpty() ? -1 : wrongs().get(0);
            return out(what, 0, 5) ? -2
                : new int[] {wrongs().size(), heaps.size(), greatest, reach, most, first}[what];
        }

        int tour(int sheet, int one) {
            if (out(sheet, 0, 3) || noOne(one)) {
                return -2;
            }
            if (sheets[sheet] == null) {
                return -11;
            }
            if (Arrays.stream(sheets[sheet]).anyMatch(c -> out(c, 0, 35))
                || Arrays.stream(sheets[sheet]).distinct().count() < sheets[sheet].length) {
                return -2;
            }
            Model then = thought();
            int all = 0;
            for (int c : sheets[sheet]) {
                all += then.relaid(then.staff.get(one), c);
            }
            return all;
        }

        // all orders, the first first; keeps {minutes, first}
        private void orders(Clerk one, List<Integer> order, List<Integer> rest, int minutes, int[] best) {
            if (rest.isEmpty() && minutes < best[0]) {
                best[0] = minutes;
                best[1] = order.isEmpty() ? -1 : order.get(0);
            }
            for (int c : rest) {
                int from = order.isEmpty() ? one.at : order.get(order.size() - 1);
                List<Integer> longer = new ArrayList<>(order);
                longer.add(c);
                List<Integer> fewer = new ArrayList<>(rest);
                fewer.remove(Integer.valueOf(c));
                orders(one, longer, fewer, minutes + away(from, c), best);
            }
        }

        int soonest(int one, int what) {
            if (noOne(one) || out(what, 0, 1)) {
                return -2;
            }
            List<Integer> cells = wrongs();
            if (cells.size() > 7) {
                return -3;
            }
            int[] best = {99999, -1};
            orders(staff.get(one), new ArrayList<>(), cells, 0, best);
            for (int c : cells) {
                best[0] += takes(staff.get(one), c);
            }
            return best[what];
        }

        int together(int what) {
            if (what != 0 && (what < 10 || noOne(what - 10))) {
                return -2;
            }
            List<Integer> cells = wrongs();
            if (cells.size() > 7) {
                return -3;
            }
            int[][] minutes = new int[staff.size()][cells.size()];
            for (int i = 0; i < staff.size(); i++) {
                for (int j = 0; j < cells.size(); j++) {
                    minutes[i][j] = minutes(staff.get(i), cells.get(j));
                }
            }
            int[] best = {99999, -1, -1, -1, -1};
            ways(minutes, cells, new int[staff.size()], 0, best);
            return what == 0 ? best[0] : best[what - 9];
        }

        // all ways in their order: each to each cell, then nowhere
        private void ways(int[][] minutes, List<Integer> cells, int[] goes, int one, int[] best) {
            if (one < staff.size()) {
                for (int j = 0; j <= cells.size(); j++) {
                    goes[one] = j;
                    ways(minutes, cells, goes, one + 1, best);
                }
                return;
            }
            int all = 0;
            int sent = 0;
            long taken = 0;
            for (int i = 0; i < goes.length; i++) {
                if (goes[i] < cells.size()) {
                    all += minutes[i][goes[i]];
                    sent++;
                    taken |= 1L << goes[i];
                }
            }
            if (sent == Math.min(staff.size(), cells.size()) && Long.bitCount(taken) == sent && all < best[0]) {
                best[0] = all;
                for (int i = 0; i < goes.length; i++) {
                    best[i + 1] = goes[i] < cells.size() ? cells.get(goes[i]) : -1;
                }
            }
        }

        int nearest(int c, int what) {
            if (out(c, 0, 35) || out(what, 0, 1)) {
                return -2;
            }
            int[] best = {-1, -1};
            for (int i = staff.size() - 1; i >= 0; i--) {
                if (best[0] < 0 || minutes(staff.get(i), c) <= best[1]) {
                    best = new int[] {i, minutes(staff.get(i), c)};
                }
            }
            return best[what];
        }

        static long lowest(int above, int below, int part) {
            for (int d = below; d > 1; d--) {
                if (above % d == 0 && below % d == 0) {
                    return (part == 0 ? above : below) / d;
                }
            }
            return part == 0 ? above : below;
        }

        long share(int row, int part) {
            int all = wrongs().size();
            if (out(row, 0, 5) || out(part, 0, 1) || all == 0) {
                return -4611686018427387904L;
            }
            return lowest((int) wrongs().stream().filter(c -> c / 6 == row).count(), all, part);
        }

        private int otherwise(int[] items, int one) {
            for (int c = 0; c < items.length; c++) {
                if (items[c] != lays(staff.get(one), c)) {
                    return c;
                }
            }
            return -1;
        }

        int tells(int sheet, int one, int what) {
            if (out(sheet, 0, 3) || noOne(one) || out(what, 0, 6)) {
                return -2;
            }
            int[] items = sheets[sheet];
            if (items == null) {
                return -11;
            }
            if (items.length > 36) {
                return -2;
            }
            if (what == 0) {
                return otherwise(items, one);
            }
            int bits = 0;
            int many = 0;
            int least = -1;
            int[] most = {0, 5, 9, 99, 99, texts.size() - 1, 6};
            for (int i = 0; i <= most[what]; i++) {
                Model then = thought();
                Clerk was = then.staff.get(one);
                switch (what) {
                    case 1: then.staff.set(one, clerkOf(i, was.number, was.at, was.laid)); break;
                    case 2: was.number = i; break;
                    case 5: then.rule = i; break;
                    case 6: then.flooded(i); break;
                    default: then.tide = i; break;
                }
                boolean so = what == 6 ? Arrays.equals(items, Arrays.copyOf(then.mark, items.length))
                    : then.otherwise(items, one) == -1;
                if (so) {
                    bits |= 1 << i;
                    many++;
                    least = least < 0 ? i : least;
                }
            }
            return what == 3 ? many : what == 4 ? least : bits;
        }

        int film(int sheet, int one, int n) {
            if (out(sheet, 0, 3) || noOne(one) || out(n, 0, 36)) {
                return -2;
            }
            sorts[sheet] = 0;
            sheets[sheet] = new int[n];
            for (int c = 0; c < n; c++) {
                sheets[sheet][c] = lays(staff.get(one), c);
            }
            return n;
        }

        long chance(int seed, int m, int k, int part) {
            if (out(m, 1, 20) || out(k, 0, 36) || out(part, 0, 1)) {
                return -4611686018427387904L;
            }
            int many = 0;
            for (int i = 0; i < m; i++) {
                many += thought().flooded((((seed + i) * 1103515245 + 12345) >>> 9) % 7) >= k ? 1 : 0;
            }
            return lowest(many, m, part);
        }

        int back() {
            if (image == null) {
                return -3;
            }
            Model then = image.thought();
            mark = then.mark;
            plan = then.plan;
            tide = then.tide;
            rule = then.rule;
            staff = then.staff;
            return staff.size();
        }

        int count(int what) {
            return out(what, 0, 5) ? -2
                : new int[] {staff.size(), wrongs().size(), tide, texts.size(), tape.length(), rule}[what];
        }

        int sheet(int sheet, int sort, int n) {
            if (out(sheet, 0, 3) || out(sort, -1, 2) || sort >= 0 && n > 40) {
                return -2;
            }
            if (sort >= 0 && n < 0) {
                return -14;
            }
            sorts[sheet] = sort;
            sheets[sheet] = sort < 0 ? null : new int[n];
            return 1;
        }

        int cell(int sheet, int i, int v) {
            if (out(sheet, 0, 3)) {
                return -2;
            }
            if (sheets[sheet] == null) {
                return -11;
            }
            if (out(i, 0, sheets[sheet].length - 1)) {
                return -12;
            }
            sheets[sheet][i] = sorts[sheet] == 0 ? v & 255 : sorts[sheet] == 1 ? v & 65535 : v;
            return 1;
        }

        int copy(int sheet, int i, int other, int j, int n) {
            if (out(sheet, 0, 3) || out(other, 0, 3)) {
                return -2;
            }
            if (sheets[sheet] == null || sheets[other] == null) {
                return -11;
            }
            if (sorts[sheet] != sorts[other]) {
                return -13;
            }
            long thisSize = sheets[sheet].length;
            long otherSize = sheets[other].length;
            if (n < 0 || i < 0 || j < 0 || (long) i + n > thisSize || (long) j + n > otherSize) {
                return -12;
            }
            int[] were = sheets[sheet].clone();
            for (int k = 0; k < n; k++) {
                sheets[other][j + k] = were[i + k];
            }
            return n;
        }

        int crew(int sheet, int sort, int from, int n) {
            if (out(sheet, 0, 3) || out(sort, 0, 2) || out(n, 0, 4)) {
                return -2;
            }
            if (sheets[sheet] == null) {
                return -11;
            }
            if (sorts[sheet] != sort) {
                return -13;
            }
            int came = 0;
            for (long k = from; k < (long) from + 3L * n; k += 3) {
                if (k < 0 || k + 2 >= sheets[sheet].length) {
                    return -12;
                }
                int[] items = sheets[sheet];
                came += join(items[(int) k], items[(int) k + 1], items[(int) k + 2]) >= 0 ? 1 : 0;
            }
            return came;
        }

        int taken(int one, int k) {
            if (out(k, 0, 5)) {
                return -2;
            }
            if (noOne(one)) {
                return -11;
            }
            Class<?> wanted = clerkOf(k, 0, 0, 0).getClass();
            return wanted.isInstance(staff.get(one)) ? staff.get(one).number : -13;
        }
    }
}
