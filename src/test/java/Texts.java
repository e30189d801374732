import java.util.List;
import java.util.Random;

/** Texts put on the TAPE: told by a test, or made at random. */
final class Texts {
    private Texts() {
    }

    /** The five numbers that hold twenty bytes of a text from here on; zeros behind its end. */
    static int[] five(String text, int from) {
        int[] numbers = new int[5];
        for (int i = 0; i < 20; i++) {
            int b = from + i < text.length() ? text.charAt(from + i) : 0;
            numbers[i / 4] = numbers[i / 4] << 8 | b;
        }
        return numbers;
    }

    /** Puts a text on the TAPE, which must be empty. */
    static void put(BecauseOf x, String text) {
        for (int from = 0; from < text.length(); from += 20) {
            int[] n = five(text, from);
            x.feed(n[0], n[1], n[2], n[3], n[4]);
        }
        x.end(text.length());
    }

    static int view(BecauseOf x, String text) {
        put(x, text);
        return x.view();
    }

    static int rule(BecauseOf x, String text) {
        put(x, text);
        return x.rule();
    }

    // ---- at random

    private static String oneOf(Random r, String... all) {
        return all[r.nextInt(all.length)];
    }

    private static String blank(Random r) {
        return r.nextInt(6) == 0 ? "  " : r.nextInt(4) == 0 ? " " : "";
    }

    private static String value(Random r) {
        switch (r.nextInt(8)) {
            case 0: return oneOf(r, "trait", "office", "stage", "came", "known");
            case 1: case 2: case 3: return "" + r.nextInt(r.nextInt(5) == 0 ? 10000 : 10);
            default: return "m" + (char) ('a' + r.nextInt(r.nextInt(2) == 0 ? 2 : 6));
        }
    }

    private static String sum(Random r) {
        StringBuilder s = new StringBuilder(value(r));
        for (int i = 0; i < 5 && r.nextInt(3) == 0; i++) {
            s.append(blank(r)).append(oneOf(r, "+", "-")).append(blank(r)).append(value(r));
        }
        return s.toString();
    }

    private static String fact(Random r, int depth) {
        int kind = r.nextInt(depth > 3 ? 4 : 6);
        if (kind == 5) return "[" + blank(r) + test(r, depth + 1) + blank(r) + "]";
        if (kind == 4) return "not " + fact(r, depth + 1);
        return sum(r) + blank(r) + oneOf(r, "<", "<=", "=", ">=", ">") + blank(r) + sum(r);
    }

    static String test(Random r, int depth) {
        StringBuilder s = new StringBuilder(fact(r, depth));
        for (int i = 0; i < 6 && r.nextInt(3) == 0; i++) {
            s.append(oneOf(r, " and ", " or ")).append(fact(r, depth));
        }
        return s.toString();
    }

    static String view(Random r) {
        StringBuilder s = new StringBuilder();
        List<Integer> marks = new java.util.ArrayList<>(List.of(0, 1, 2, 3, 4, 5));
        java.util.Collections.shuffle(marks, r);
        int many = r.nextInt(4);
        for (int i = 0; i < many; i++) {
            // mostly the first MARKS, which most CASES have
            String mark = "m" + (char) ('a' + (r.nextInt(3) > 0 && marks.get(i) > 2 ? marks.get(i) - 3 : marks.get(i)));
            s.append(i == 0 ? "" : ";").append(blank(r));
            s.append(r.nextInt(2) == 0 ? "like " + mark : "near " + mark + " " + (1 + r.nextInt(r.nextInt(2) == 0 ? 5 : 99)));
            s.append(blank(r));
        }
        if (r.nextInt(3) == 0) s.append(s.length() == 0 ? "" : ";").append("within ").append(r.nextInt(r.nextInt(2) == 0 ? 20 : 1000));
        if (s.length() == 0 || r.nextInt(5) == 0) s.append(s.length() == 0 ? "" : "; ").append("among ").append(r.nextInt(2) == 0 ? "stage >= 0" : test(r, 1));
        return s.toString();
    }

    private static String insert(String s, int at, String t) {
        return s.substring(0, at) + t + s.substring(at);
    }

    /** A text with something wrong in it, or at a limit. */
    static String bent(Random r, String text) {
        int at = r.nextInt(text.length() + 1);
        switch (r.nextInt(10)) {
            case 0: return text.substring(0, at);
            case 1: return insert(text, at, oneOf(r, "[", "]", "(", ";", "+", "=", "\t", "M", "1", "a", "\0", "\u00ff", "12345", " "));
            case 2: return at < text.length() ? text.substring(0, at) + text.substring(at + 1) : text + ";";
            case 3: return text + ";" + view(r);
            case 4: return text + (r.nextBoolean() ? " and " : "; among ") + "[".repeat(9 + r.nextInt(3)) + "ma = 1" + "]".repeat(9 + r.nextInt(3));
            case 5: return text + " or " + "not ".repeat(9 + r.nextInt(3)) + "ma = 1";
            case 6: return text + " and ma" + " + mb".repeat(30 + r.nextInt(10)) + " < 1";
            case 7: return text + " or 1<2".repeat(5 + r.nextInt(12));
            case 8: return insert(text, at, oneOf(r, " and ", " or ", "not ", " among ", " like ", " within 5", "near ma 100", "near mb 0", " 1000"));
            default: return "not [ ".repeat(3 + r.nextInt(4)) + text + " ]".repeat(3 + r.nextInt(4));
        }
    }
}
