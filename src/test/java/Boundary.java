import java.util.ArrayList;
import java.util.Arrays;
import java.util.LinkedHashMap;
import java.util.List;
import java.util.Map;
import java.util.function.IntToLongFunction;
import java.util.regex.Pattern;

/** What the boundary tests share: which sentence of the document is being tried, and what its calls must answer. */
final class Boundary {
    static final int NONE = -1;
    static final int BIG = Integer.MAX_VALUE;
    static final int SMALL = Integer.MIN_VALUE;

    private record Sentence(int promise, String words) { }

    /** Each sentence tried, and how many answers were looked at. */
    private static final Map<Sentence, Integer> TRIED = new LinkedHashMap<>();
    private static Sentence now;
    private static int wrong = 0;
    private static int answers = 0;

    private Boundary() {
    }

    /** From here on this sentence of the document is tried, by calls of this promise. */
    static void at(int promise, String words) {
        now = new Sentence(promise, words);
        TRIED.putIfAbsent(now, 0);
    }

    private static void complain(String what) {
        wrong++;
        if (wrong < 60) System.out.println(what);
    }

    static void due(String call, long got, long want) {
        answers++;
        TRIED.merge(now, 1, Integer::sum);
        if (got != want) {
            complain("promise " + now.promise() + ", <" + now.words() + ">: " + call + " answered " + got + ", due is " + want);
        }
    }

    /** What is just too small or too large, far beside, or falls in again if the high bits are lost. */
    static void beside(String call, IntToLongFunction f, int least, int most, long refusal) {
        int[] outside = {least - 1, most + 1, least - 256, most + 256, least + 65536, most - 65536, SMALL, BIG};
        for (int n : outside) {
            due(call + " of " + n, f.applyAsLong(n), refusal);
        }
    }

    /** What can be seen of a small object's CASES, LETTERS, and counts: some forty calls. */
    static String state(BecauseOf x) {
        StringBuilder s = new StringBuilder();
        for (int what = 0; what < 5; what++) s.append(x.count(what)).append(' ');
        for (int k = 0; k < 3; k++) {
            for (int what = 0; what < 10; what++) s.append(x.told(k, what)).append(' ');
        }
        for (int what = 0; what < 3; what++) s.append(x.turned(NONE, what)).append(' ');
        return s.toString();
    }

    static void same(String call, String before, String after) {
        due("what stands after " + call + " (" + after + ", before " + before + ")", before.equals(after) ? 1 : 0, 1);
    }

    // ---- CASES and LETTERS

    /** A CASE with its first MARKS. */
    static int ask(BecauseOf x, int trait, int office, int stage, int came, int... marks) {
        int k = x.asks(trait, office, stage, came);
        for (int m = 0; m < marks.length; m++) x.mark(k, m, marks[m]);
        return k;
    }

    /** So many CASES alike, without MARKS. */
    static void many(BecauseOf x, int times, int trait, int stage) {
        for (int i = 0; i < times; i++) x.asks(trait, 0, stage, NONE);
    }

    /** So many LETTERS to an OFFICE answered to TRAIT 0 alone, then so many to TRAIT 1 alone. */
    static void send(BecauseOf x, int office, int heads, int tails) {
        for (int i = 0; i < heads + tails; i++) x.letter(office, i < heads, i >= heads);
    }

    // ---- texts

    /** What view() and rule() answer for a FAULT. */
    static int fault(int place, int code) {
        return -2 - (1 + 8 * place + code);
    }

    static void readsView(String... texts) {
        for (String text : texts) due("view() of <" + text + ">", Texts.view(new BecauseOf(), text), 0);
    }

    static void refusesView(String text, int place, int code) {
        due("view() of <" + text + ">", Texts.view(new BecauseOf(), text), fault(place, code));
    }

    /** As a RULE, and behind among. */
    static void readsTest(String... texts) {
        for (String text : texts) {
            due("rule() of <" + text + ">", Texts.rule(new BecauseOf(), text), 0);
            readsView("among " + text);
        }
    }

    static void refusesTest(String text, int place, int code) {
        due("rule() of <" + text + ">", Texts.rule(new BecauseOf(), text), fault(place, code));
        refusesView("among " + text, place + 6, code);
    }

    /** Whether a TEST is true of a CASE, told by TRAIT, OFFICE, STAGE, what CAME, MARKS: as a RULE, and as whom a VIEW looks at. */
    static void says(String text, int want, int... told) {
        BecauseOf x = new BecauseOf();
        ask(x, told[0], told[1], told[2], told[3], Arrays.copyOfRange(told, 4, told.length));
        due("says() of <" + text + ">", x.says(Texts.rule(x, text), 0), want);
        due("takes() of <among " + text + ">", x.takes(Texts.view(x, "among " + text), NONE), want);
    }

    // ---- the document

    private static final Pattern NAMES_A_BOUNDARY = Pattern.compile(
            "NONE|\\bnone\\b|at most|at least|above|below|miss|\\bleast|without|\\d to \\d|or more|more than|once|alone|else"
            + "|-\\d|empty|nobody|first|never|too |second|only|may be|not known|known what|downwards|towards");

    /** Each sentence must stand in the document, where its promise or the terms are told, with calls on both sides;
        and no part of the document that names a boundary may be without one. */
    static void holdAgainst(String document) {
        String all = document.replaceAll("\\s+", " ");
        List<String> parts = new ArrayList<>(Arrays.asList(all.substring(0, all.indexOf("## Not promised")).split("## Promise ")));
        List<boolean[]> told = new ArrayList<>();
        for (String part : parts) told.add(new boolean[part.length()]);
        for (Map.Entry<Sentence, Integer> tried : TRIED.entrySet()) {
            Sentence s = tried.getKey();
            if (tried.getValue() < 2) complain("promise " + s.promise() + ", <" + s.words() + ">: calls on one side alone");
            boolean own = parts.get(s.promise()).contains(s.words());
            if (!own && !parts.get(0).contains(s.words())) complain("promise " + s.promise() + ": the document has no <" + s.words() + ">");
            int part = own ? s.promise() : 0;
            int from = Math.max(0, parts.get(part).indexOf(s.words()));
            Arrays.fill(told.get(part), from, from + s.words().length(), true);
        }
        for (int part = 0; part < parts.size(); part++) untold(part, parts.get(part), told.get(part));
    }

    private static void untold(int promise, String part, boolean[] told) {
        int from = promise == 0 ? part.indexOf("## Terms") : part.indexOf("`: ");
        for (int to = from; to < part.length(); to++) {
            if (";:.".indexOf(part.charAt(to)) >= 0 || to == part.length() - 1) {
                String clause = part.substring(from, to);
                boolean any = false;
                for (int i = from; i < to; i++) any |= told[i];
                if (!any && NAMES_A_BOUNDARY.matcher(clause).find()) complain("no test for <" + clause.strip() + "> of promise " + promise + " (0: terms)");
                from = to + 1;
            }
        }
    }

    static int sentences() {
        return TRIED.size();
    }

    static int answers() {
        return answers;
    }

    static int wrong() {
        return wrong;
    }
}
