/** The boundaries of promises 33 to 36: SHORT RULES, one's own case, the least change. */
final class BoundaryRules {
    private static final int NONE = Boundary.NONE;

    private BoundaryRules() {
    }

    static void all() {
        few();
        fewFull();
        partsAtBothEnds();
        missing();
        best();
        bestOfTwo();
        with();
        own();
        ownAlone();
        change();
        changeOfMarks();
        changeMissing();
        changeOfSeveral();
    }

    private static void at(int promise, String words) {
        Boundary.at(promise, words);
    }

    private static void due(String call, long got, long want) {
        Boundary.due(call, got, want);
    }

    private static BecauseOf with(String view) {
        BecauseOf x = new BecauseOf();
        Texts.view(x, view);
        return x;
    }

    // ---- 33: few

    private static void fews(String of, BecauseOf x, int... want) {
        for (int n = 0; n < want.length; n++) due("few(0, " + n + ") of " + of, x.few(0, n), want[n]);
    }

    private static void few() {
        at(33, "FEW for n (0 to 200); -2: more than two; NONE without these.");
        BecauseOf x = with("within 5");
        fews("nobody", x, 0, 0);
        // LET with 1 and 3, not with 0, 2 and 4: two tell two of three, none all
        int[] let = {0, 2, 0, 2, 0};
        for (int v = 0; v < 5; v++) Boundary.ask(x, 0, 0, let[v], 0, v);
        fews("five by turns", x, -2, 2, 1, 0);
        due("few(0, 200)", x.few(0, 200), 0);
        Boundary.beside("few for n", n -> x.few(0, n), 0, 200, NONE);
        Boundary.beside("few of a VIEW", v -> x.few(v, 0), 0, 0, NONE);

        at(33, "FEW for n: how many of these the shortest rule has that is WRONG in n at most");
        BecauseOf y = with("within 5");
        Boundary.many(y, 3, 0, 2);
        fews("three LET", y, 0, 0);
        Boundary.many(y, 1, 1, 0);
        fews("three LET of TRAIT 0, one of TRAIT 1 not", y, 1, 0, 0);
        Boundary.many(y, 2, 1, 1);
        fews("three LET of TRAIT 0, three of TRAIT 1 not", y, 1, 1, 1, 0, 0);
        Boundary.many(y, 1, 0, 0);
        fews("one of TRAIT 0 not LET, too", y, 2 - 4, 1, 1, 1, 0);
    }

    private static void fewFull() {
        at(33, "WRONG: how many taken it tells otherwise than it was.");
        BecauseOf x = with("within 5");
        Boundary.many(x, 200, 0, 0);
        due("few(0, 200) of 200 not LET", x.few(0, 200), 0);
        due("few(0, 199)", x.few(0, 199), 1);
        due("few(0, 0)", x.few(0, 0), 1);
        due("best(0, 0, 0)", x.best(0, 0, 0), 200);
        due("best(0, 1, 0)", x.best(0, 1, 0), 0);
        BecauseOf y = with("within 5");
        Boundary.many(y, 200, 0, 2);
        due("few(0, 0) of 200 LET", y.few(0, 0), 0);
        due("best(0, 0, 0)", y.best(0, 0, 0), 0);
        due("best(0, 1, 0)", y.best(0, 1, 0), 0);
        due("best(0, 2, 0): two parts are true of nobody here", y.best(0, 2, 0), 200);
        // each one counts: the first, the last, and those beside multiples of 64
        int[] places = {0, 63, 64, 127, 128, 191, 192, 199};
        for (int place : places) {
            BecauseOf z = with("within 5");
            for (int k = 0; k < 200; k++) z.asks(k == place ? 1 : 0, 0, k == place ? 0 : 2, 0);
            due("best(0, 0, 0) of 199 LET, but " + place, z.best(0, 0, 0), 1);
            due("best(0, 1, 0) of 199 LET, but " + place, z.best(0, 1, 0), 0);
            due("few(0, 0)", z.few(0, 0), 1);
            due("few(0, 1)", z.few(0, 1), 0);
            z.mark(place, 0, 5);
            due("best(0, 2, 0)", z.best(0, 2, 0), 199);
        }
        // each VIEW of one object by its own CASES
        BecauseOf v = with("within 5");
        Texts.view(v, "among trait = 1");
        Boundary.many(v, 1, 0, 2);
        Boundary.many(v, 2, 1, 0);
        due("best(0, 0, 0) of one LET, two not", v.best(0, 0, 0), 2);
        due("best(1, 0, 0) of the two", v.best(1, 0, 0), 2);
        due("best(1, 1, 0) of the two", v.best(1, 1, 0), 0);
        due("best(0, 0, 0) again", v.best(0, 0, 0), 2);
        // and those not taken don't
        BecauseOf w = with("among trait = 1");
        Boundary.many(w, 99, 0, 0);
        Boundary.many(w, 1, 1, 0);
        due("few(0, 0) of one taken", w.few(0, 0), 1);
        due("few(0, 1) of one taken", w.few(0, 1), 0);
    }

    private static void partsAtBothEnds() {
        at(33, "a MARK is at least v (v 1 to 9), a MARK is at most v (0 to 8)");
        for (int m = 0; m < 6; m++) {
            // between two values that lie beside one another, either side LET
            for (int low = 0; low < 9; low++) {
                for (int side = 0; side < 2; side++) {
                    BecauseOf x = with("within 5");
                    for (int i = 0; i < 3; i++) x.asks(i % 2, 0, i == 0 ? 2 * side : 2 - 2 * side, 0);
                    x.mark(0, m, low + 1);
                    x.mark(1, m, low);
                    x.mark(2, m, low);
                    due("few(0, 0) by " + low + " and one more, side " + side, x.few(0, 0), 1);
                    due("best(0, 1, 0)", x.best(0, 1, 0), 0);
                    due("best(0, 1, 1): by the MARK alone", x.best(0, 1, 1), 0);
                }
            }
            // two between three values
            for (int middle = 1; middle < 9; middle++) {
                BecauseOf x = with("within 5");
                for (int i = 0; i < 3; i++) Boundary.ask(x, 0, 0, i == 1 ? 2 : 0, 0);
                for (int i = 0; i < 3; i++) x.mark(i, m, middle - 1 + i);
                fews("the middle of three", x, 2, 1, 0);
            }
        }
        // each part is true of somebody here, and only two parts of nobody
        BecauseOf z = with("within 5");
        Boundary.ask(z, 0, 0, 0, 0, 0, 0, 0, 0, 0, 0);
        Boundary.ask(z, 1, 0, 0, 0, 9, 9, 9, 9, 9, 9);
        due("best(0, 1, 0) of 0 and 9", z.best(0, 1, 0), 1);
        fews("0 and 9, neither LET", z, 2, 1, 0);
        // no part of a MARK is true by another MARK
        for (int m = 0; m < 5; m++) {
            BecauseOf w = with("within 5");
            for (int i = 0; i < 3; i++) Boundary.ask(w, 0, 0, i == 2 ? 0 : 2, 0);
            w.mark(0, m, 3);
            w.mark(1, m, 9);
            w.mark(2, m, 9);
            w.mark(1, m + 1, 0);
            fews("LET by either of two MARKS", w, -2, 0);
            w.mark(1, m, 0);
            w.mark(0, m + 1, 9);
            w.mark(1, m + 1, NONE);
            w.mark(2, m, 4);
            fews("LET by one MARK", w, 1, 0);
        }
        // no part is true of 0 as of 9 and not of one that is missing
        BecauseOf y = with("within 5");
        Boundary.ask(y, 0, 0, 2, 0, 0);
        Boundary.ask(y, 0, 0, 2, 0, 9);
        fews("0 and 9 LET", y, 0);
        Boundary.ask(y, 0, 0, 0, 0);
        fews("0 and 9 LET, one that is missing not", y, -2, 0);
        y.mark(0, 0, 1);
        fews("1 and 9 LET", y, 1, 0);
        y.mark(0, 0, 0);
        y.mark(1, 0, 8);
        fews("0 and 8 LET", y, 1, 0);
    }

    private static void missing() {
        at(33, "LET would be those for which all of it is true (a MARK that is missing: not).");
        BecauseOf x = with("within 5");
        Boundary.ask(x, 0, 0, 2, 0);
        Boundary.ask(x, 0, 0, 0, 0, 5);
        // "at most" and "at least" are true of the second alone, if of any; TRAIT is 1 is WRONG in the first
        fews("one LET that misses the MARK", x, -2, 0);
        x.mark(0, 0, 0);
        fews("one LET with 0", x, 1, 0);
        x.mark(0, 0, NONE);
        x.mark(1, 0, NONE);
        due("best(0, 1, 0) without MARKS", x.best(0, 1, 0), 1);
        // of two parts both must be true
        BecauseOf y = with("within 5");
        Boundary.ask(y, 0, 0, 2, 0, 5, 5);
        Boundary.ask(y, 0, 0, 0, 0, 5, 4);
        Boundary.ask(y, 0, 0, 0, 0, 4, 5);
        fews("both MARKS", y, 2, 1, 0);
        y.mark(1, 1, NONE);
        y.mark(2, 0, NONE);
        fews("both MARKS, or one missing", y, 2, 1, 0);
        y.mark(0, 1, NONE);
        fews("one MARK is missing of all", y, -2, 1, 0);
    }

    // ---- 34: best

    private static void best() {
        at(34, "NONE without these.");
        BecauseOf x = with("within 5");
        for (int many = 0; many < 3; many++) {
            due("best(0, " + many + ", 0) of nobody", x.best(0, many, 0), 0);
            // all rules are as little WRONG: some name the TRAIT
            due("best(0, " + many + ", 1) of nobody", x.best(0, many, 1), many == 0 ? 0 : 1);
        }
        Boundary.many(x, 1, 0, 0);
        int[] wrong = {1, 0, 0};
        for (int many = 0; many < 3; many++) due("best(0, " + many + ", 0) of one not LET", x.best(0, many, 0), wrong[many]);
        Boundary.beside("best of so many", many -> x.best(0, many, 0), 0, 2, NONE);
        Boundary.beside("best of so many", many -> x.best(0, many, 1), 0, 2, NONE);
        Boundary.beside("best what", what -> x.best(0, 0, what), 0, 1, NONE);
        Boundary.beside("best what", what -> x.best(0, 2, what), 0, 1, NONE);
        Boundary.beside("best of a VIEW", v -> x.best(v, 0, 0), 0, 0, NONE);

        at(34, "BEST: the least WRONG of rules of so many (0, 1, 2)");
        BecauseOf y = with("within 5");
        Boundary.ask(y, 0, 0, 2, 0, 5);
        Boundary.ask(y, 0, 0, 0, 0, 4);
        Boundary.ask(y, 1, 0, 0, 0, 5);
        Boundary.ask(y, 1, 0, 1, 0, 4);
        int[] least = {3, 1, 0};
        for (int many = 0; many < 3; many++) due("best(0, " + many + ", 0)", y.best(0, many, 0), least[many]);
        // STAGE 1 is not LET, 2 is
        BecauseOf z = with("within 5");
        Boundary.many(z, 1, 0, 1);
        due("best(0, 0, 0) of STAGE 1", z.best(0, 0, 0), 1);
        Boundary.many(z, 1, 0, 2);
        due("best(0, 0, 0) of STAGE 1 and 2", z.best(0, 0, 0), 1);
        due("best(0, 1, 0) of STAGE 1 and 2", z.best(0, 1, 0), 1);
    }

    private static void bestOfTwo() {
        at(34, "none, one or two of");
        BecauseOf x = with("within 5");
        // one part tells all: two unlike ones must do as well, or not
        Boundary.ask(x, 0, 0, 2, 0, 9);
        Boundary.ask(x, 1, 0, 2, 0, 2);
        Boundary.ask(x, 0, 0, 0, 0, 1);
        due("best(0, 1, 0): at least 2", x.best(0, 1, 0), 0);
        due("best(0, 2, 0): at least 2 and 1", x.best(0, 2, 0), 0);
        x.mark(1, 0, 1);
        x.mark(2, 0, 0);
        due("best(0, 1, 0): at least 1", x.best(0, 1, 0), 0);
        due("best(0, 2, 0): nothing goes beside at least 1", x.best(0, 2, 0), 1);
        x.mark(0, 0, 8);
        due("best(0, 2, 0): at least 1 and at most 8", x.best(0, 2, 0), 0);
        // TRAIT is 0 and TRAIT is 1 together: nobody
        BecauseOf y = with("within 5");
        Boundary.many(y, 1, 0, 0);
        Boundary.many(y, 1, 1, 1);
        due("best(0, 1, 0) of none LET: a MARK that is missing", y.best(0, 1, 0), 0);
        due("best(0, 2, 0) of none LET", y.best(0, 2, 0), 0);
    }

    private static void withs(String of, BecauseOf x, int one, int two) {
        due("best(0, 0, 1) of " + of, x.best(0, 0, 1), 0);
        due("best(0, 1, 1) of " + of, x.best(0, 1, 1), one);
        due("best(0, 2, 1) of " + of, x.best(0, 2, 1), two);
    }

    private static void with() {
        at(34, "WITH: 1 if some rule of so many that is so little WRONG names the TRAIT, 2 if all do, else 0.");
        BecauseOf x = with("within 5");
        Boundary.ask(x, 0, 0, 2, 0, 9);
        Boundary.ask(x, 1, 0, 0, 0, 9);
        // TRAIT is 0; two parts: with at least v
        withs("the TRAIT alone tells", x, 2, 2);
        x.mark(1, 0, 8);
        // or ma at least 9; two parts: these, and TRAIT is 0 with at least 1
        withs("the TRAIT or the MARK tells", x, 1, 1);
        Boundary.ask(x, 0, 0, 0, 0, 8);
        // ma at least 9; two parts: with at least 1, or with TRAIT is 0
        withs("the MARK alone tells", x, 0, 1);
        Boundary.ask(x, 1, 0, 2, 0, 9);
        // two parts: at least 9 and at least 1, and none with the TRAIT
        withs("the TRAIT tells nothing", x, 0, 0);
        Boundary.ask(x, 1, 0, 0, 0, 9);
        Boundary.ask(x, 1, 0, 0, 0, 9);
        // one: TRAIT is 0 is WRONG in 2, at least 9 in 2; two: TRAIT is 0 and at least 9 in 1
        withs("both tell", x, 1, 2);
        // one of the rules that are not WRONG names it, another doesn't: ma at least 9 and TRAIT is 0, mb and mc at least 9
        BecauseOf z = with("within 5");
        int[][] all = {{0, 2, 9, 9, 9}, {1, 0, 9, 8, 9}, {0, 0, 8, 9, 8}, {0, 0, 8, 8, 9}, {1, 0, 9, 9, 8}};
        for (int[] a : all) Boundary.ask(z, a[0], 0, a[1], 0, a[2], a[3], a[4]);
        due("best(0, 2, 0) of two rules", z.best(0, 2, 0), 0);
        due("best(0, 2, 1) of two rules", z.best(0, 2, 1), 1);
        // TRAIT is 1, too
        BecauseOf y = with("within 5");
        Boundary.many(y, 1, 1, 2);
        Boundary.many(y, 1, 0, 0);
        withs("TRAIT is 1", y, 2, 1);
    }

    // ---- 35: own

    private static void owns(BecauseOf x, int view, int k, int others, int let) {
        due("own(" + view + ", " + k + ", 0)", x.own(view, k, 0), others);
        due("own(" + view + ", " + k + ", 1)", x.own(view, k, 1), let);
    }

    private static void own() {
        at(35, "ONE'S OWN what 0: how many others, 1: LET of these; NONE without these (a MARK of like that is missing, too).");
        BecauseOf x = with("like ma; like mf");
        owns(x, 0, 0, NONE, NONE);
        Boundary.ask(x, 0, 0, 2, 0, 0, NONE, NONE, NONE, NONE, 9);
        Boundary.ask(x, 1, 0, 2, 0, 0, NONE, NONE, NONE, NONE, 9);
        Boundary.ask(x, 1, 0, 1, 0, 0, 5, NONE, NONE, NONE, 9);
        Boundary.ask(x, 1, 0, 2, 0, 0, NONE, NONE, NONE, NONE, 8);
        owns(x, 0, 0, 2, 1);
        owns(x, 0, 2, 2, 2);
        owns(x, 0, 3, 0, 0);
        Boundary.beside("own of a CASE", k -> x.own(0, k, 0), 0, 3, NONE);
        Boundary.beside("own of a VIEW", v -> x.own(v, 0, 0), 0, 0, NONE);
        Boundary.beside("own what", what -> x.own(0, 0, what), 0, 1, NONE);
        x.mark(3, 5, NONE);
        owns(x, 0, 3, NONE, NONE);
        x.mark(3, 5, 9);
        owns(x, 0, 3, 3, 2);
        x.mark(3, 0, NONE);
        owns(x, 0, 3, NONE, NONE);
        owns(x, 0, 0, 2, 1);
        BecauseOf y = with("within 5");
        Boundary.many(y, 200, 0, 2);
        owns(y, 0, 0, 199, 199);
        owns(y, 0, 199, 199, 199);
        owns(y, 0, 200, NONE, NONE);
    }

    private static void ownAlone() {
        at(35, "a CASE of a VIEW's GROUP (it may be taken or not; it misses no MARK of like): others taken with the same MARKS of like");
        BecauseOf x = with("among trait = 1; like ma");
        Boundary.ask(x, 0, 0, 2, 0, 4);
        owns(x, 0, 0, 0, 0);
        Boundary.ask(x, 1, 0, 2, 0, 4);
        owns(x, 0, 0, 1, 1);
        owns(x, 0, 1, 0, 0);
        Boundary.ask(x, 0, 0, 2, 0, 4);
        owns(x, 0, 1, 0, 0);
        owns(x, 0, 2, 1, 1);
        Boundary.ask(x, 0, 0, 2, 0, 5);
        owns(x, 0, 3, 0, 0);
        Boundary.ask(x, 1, 0, 1, 0);
        owns(x, 0, 4, NONE, NONE);
        // without like all taken are of one GROUP
        Texts.view(x, "among trait = 1");
        owns(x, 1, 4, 1, 1);
        owns(x, 1, 1, 1, 0);
        owns(x, 1, 0, 2, 1);
        Texts.view(x, "among 1 = 2");
        owns(x, 2, 0, 0, 0);
    }

    // ---- 36: change

    private static void changes(String rule, BecauseOf x, int... want) {
        // each RULE by itself, in an object with the same CASE
        BecauseOf y = new BecauseOf();
        y.asks(x.told(0, 0), x.told(0, 1), x.told(0, 2), x.told(0, 3));
        for (int m = 0; m < 6; m++) y.mark(0, m, x.told(0, 4 + m));
        int r = Texts.rule(y, rule);
        String before = Boundary.state(y);
        for (int what = 0; what < 6; what++) due("change(0, " + r + ", " + what + ") for <" + rule + ">", y.change(0, r, what), want[what]);
        Boundary.same("change", before, Boundary.state(y));
    }

    private static void unchangeable(String rule, BecauseOf x) {
        changes(rule, x, -2, -2, -2, -2, -2, -2);
    }

    private static BecauseOf one(int... marks) {
        BecauseOf x = new BecauseOf();
        Boundary.ask(x, 0, 0, 0, 0, marks);
        return x;
    }

    private static void change() {
        at(36, "-2: none does; NONE without these.");
        BecauseOf x = one(5, 5);
        Texts.rule(x, "ma = 6");
        Texts.rule(x, "ma > 9");
        int[] want = {1, 1, 0, 6, NONE, NONE};
        for (int what = 0; what < 6; what++) {
            int of = what;
            due("change(0, 0, " + what + ")", x.change(0, 0, what), want[what]);
            due("change(0, 1, " + what + ")", x.change(0, 1, what), -2);
            Boundary.beside("change of a CASE", k -> x.change(k, 0, of), 0, 0, NONE);
            Boundary.beside("change for a RULE", r -> x.change(0, r, of), 0, 1, NONE);
        }
        Boundary.beside("change what", what -> x.change(0, 0, what), 0, 5, NONE);
        Boundary.beside("change what, where none does", what -> x.change(0, 1, what), 0, 5, NONE);
        due("change(0, 0, 0) without CASES", new BecauseOf().change(0, 0, 0), NONE);
        BecauseOf y = new BecauseOf();
        Texts.rule(y, "ma = 6");
        due("change(0, 0, 0) without a CASE", y.change(0, 0, 0), NONE);
        y.asks(0, 0, 0, 0);
        due("change(0, 0, 0)", y.change(0, 0, 0), 10);
        due("change(0, 0, 0) without a RULE", one(1).change(0, 0, 0), NONE);

        at(36, "1: how many MARKS, 2: the first MARK (NONE), 3: its value, 4: the second one, 5: its value");
        changes("ma = 5", one(5), 0, 0, NONE, NONE, NONE, NONE);
        changes("ma = 4", one(5), 1, 1, 0, 4, NONE, NONE);
        changes("ma = 4 and mb = 0", one(5, 1), 2, 2, 0, 4, 1, 0);
        changes("me = 0 and mf = 9", one(5, 5, 5, 5, 1, 8), 2, 2, 4, 0, 5, 9);
        changes("mf = 9", one(5, 5, 5, 5, 1, 8), 1, 1, 5, 9, NONE, NONE);
        changes("1 = 1", one(), 0, 0, NONE, NONE, NONE, NONE);
        unchangeable("1 = 2", one(5));
        unchangeable("trait = 1", one(5));
        unchangeable("stage = 2 and ma = 5", one(5));
    }

    private static void changeOfMarks() {
        at(36, "at most two MARKS of a CASE told otherwise (0 to 9, one that is missing: told");
        changes("ma = 0", one(9), 9, 1, 0, 0, NONE, NONE);
        changes("ma = 9", one(0), 9, 1, 0, 9, NONE, NONE);
        unchangeable("ma < 0", one(5));
        unchangeable("ma > 9", one(5));
        unchangeable("ma = 10", one(5));
        changes("ma + mb = 18", one(0, 0), 18, 2, 0, 9, 1, 9);
        unchangeable("ma + mb = 19", one(0, 0));
        changes("ma + mb = 0", one(9, 9), 18, 2, 0, 0, 1, 0);
        changes("ma = 1 and mb = 1", one(0, 0, 0), 2, 2, 0, 1, 1, 1);
        unchangeable("ma = 1 and mb = 1 and mc = 1", one(0, 0, 0));
        changes("ma = 1 and mb = 1 and mc = 1", one(0, 1, 0), 2, 2, 0, 1, 2, 1);
        unchangeable("ma + mb + mc = 27", one(9, 8, 8).told(0, 4) == 9 ? one(8, 8, 8) : one());
        changes("ma + mb + mc = 27", one(9, 8, 8), 2, 2, 1, 9, 2, 9);
        // none is told to be missing
        unchangeable("not ma >= 0", one(5));
        changes("not ma >= 0", one(), 0, 0, NONE, NONE, NONE, NONE);
    }

    private static void changeMissing() {
        at(36, "as many steps as they differ, one that is missing as 10");
        changes("ma >= 0", one(), 10, 1, 0, 0, NONE, NONE);
        changes("ma = 9", one(), 10, 1, 0, 9, NONE, NONE);
        changes("ma = 0", one(), 10, 1, 0, 0, NONE, NONE);
        changes("ma >= 0 and mb >= 0", one(), 20, 2, 0, 0, 1, 0);
        unchangeable("ma >= 0 and mb >= 0 and mc >= 0", one());
        // 9 steps before 10; 10 of two before 10 of one? fewer MARKS
        changes("mb = 0 or ma = 0", one(9), 9, 1, 0, 0, NONE, NONE);
        changes("ma = 0 and mc = 1 or mb = 7", one(9, NONE, 0), 10, 1, 1, 7, NONE, NONE);
        changes("ma = 0 and mc = 2 or mb = 7", one(9, NONE, 0), 10, 1, 1, 7, NONE, NONE);
        changes("ma = 1 and mc = 1 or mb = 7", one(9, NONE, 0), 9, 2, 0, 1, 2, 1);
        changes("ma = 1 and mb = 0", one(0), 11, 2, 0, 1, 1, 0);
    }

    private static void changeOfSeveral() {
        at(36, "the fewest steps; of several fewer MARKS, then the least first MARK, its least value, the least second one, its least value (first below second).");
        // steps
        changes("ma = 3 or mb = 4", one(5, 5), 1, 1, 1, 4, NONE, NONE);
        changes("ma = 3 or mb = 4 and mc = 5", one(5, 5, 5), 1, 1, 1, 4, NONE, NONE);
        changes("ma = 2 or mb = 4 and mc = 4", one(5, 5, 5), 2, 2, 1, 4, 2, 4);
        // fewer MARKS
        changes("ma = 4 and mb = 4 or mf = 3", one(5, 5, 5, 5, 5, 5), 2, 1, 5, 3, NONE, NONE);
        // the least first MARK, its least value
        changes("ma = 6 or mb = 4", one(5, 5), 1, 1, 0, 6, NONE, NONE);
        changes("ma = 6 or ma = 4", one(5, 5), 1, 1, 0, 4, NONE, NONE);
        changes("not ma = 5", one(5), 1, 1, 0, 4, NONE, NONE);
        changes("not ma = 0", one(0), 1, 1, 0, 1, NONE, NONE);
        changes("not ma = 9", one(9), 1, 1, 0, 8, NONE, NONE);
        // of two: the first, its value, the second, its value
        changes("mb = 4 and mc = 4 or ma = 6 and mf = 6", one(5, 5, 5, 5, 5, 5), 2, 2, 0, 6, 5, 6);
        changes("ma = 6 and mb = 4 or ma = 4 and mf = 6", one(5, 5, 5, 5, 5, 5), 2, 2, 0, 4, 5, 6);
        changes("ma = 4 and mc = 4 or ma = 4 and mb = 6", one(5, 5, 5, 5, 5, 5), 2, 2, 0, 4, 1, 6);
        changes("ma = 4 and mb = 6 or ma = 4 and mb = 4", one(5, 5, 5, 5, 5, 5), 2, 2, 0, 4, 1, 4);
        changes("ma + mb + mc + md + me + mf = 2", one(0, 0, 0, 0, 0, 0), 2, 1, 0, 2, NONE, NONE);
        changes("ma + mb + mc + md + me + mf = 10", one(0, 0, 0, 0, 0, 0), 10, 2, 0, 1, 1, 9);
    }
}
