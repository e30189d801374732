/** The boundaries of promises 10 to 18: what is told of a VIEW. */
final class BoundaryViews {
    private static final int NONE = Boundary.NONE;

    private BoundaryViews() {
    }

    static void all() {
        takes();
        takesLike();
        table();
        gap();
        luck();
        luckFull();
        group();
        groupMany();
        would();
        lacks();
        pairs();
        pairsFirstTen();
        pairsDistance();
        next();
        nextLeast();
        sway();
        swayLeast();
    }

    private static void at(int promise, String words) {
        Boundary.at(promise, words);
    }

    private static void due(String call, long got, long want) {
        Boundary.due(call, got, want);
    }

    /** An object with one VIEW. */
    private static BecauseOf with(String view) {
        BecauseOf x = new BecauseOf();
        Texts.view(x, view);
        return x;
    }

    // ---- 10: takes

    private static void takes() {
        at(10, "How many CASES a VIEW takes (k NONE), or the k-th by numbers");
        BecauseOf x = with("among trait = 1");
        due("takes(0, NONE) of nobody", x.takes(0, NONE), 0);
        due("takes(0, 0) of nobody", x.takes(0, 0), NONE);
        Boundary.many(x, 3, 0, 0);
        due("takes(0, NONE) that takes none", x.takes(0, NONE), 0);
        due("takes(0, 0) that takes none", x.takes(0, 0), NONE);
        Boundary.many(x, 2, 1, 0);
        Boundary.many(x, 1, 0, 0);
        Boundary.many(x, 1, 1, 0);
        due("takes(0, NONE)", x.takes(0, NONE), 3);
        int[] taken = {3, 4, 6};
        for (int k = 0; k < 3; k++) due("takes(0, " + k + ")", x.takes(0, k), taken[k]);

        at(10, "NONE without these.");
        due("takes(0, 2)", x.takes(0, 2), 6);
        Boundary.beside("takes the k-th", k -> x.takes(0, k), NONE, 2, NONE);
        Boundary.beside("takes of a VIEW", v -> x.takes(v, NONE), 0, 0, NONE);
        Boundary.beside("takes the first of a VIEW", v -> x.takes(v, 0), 0, 0, NONE);
        due("takes(0, 0) without a VIEW", new BecauseOf().takes(0, 0), NONE);
        due("takes(0, NONE) without a VIEW", new BecauseOf().takes(0, NONE), NONE);
        BecauseOf y = with("within 5");
        Boundary.many(y, 200, 0, 0);
        due("takes(0, NONE) of 200", y.takes(0, NONE), 200);
        due("takes(0, 199) of 200", y.takes(0, 199), 199);
        due("takes(0, 200) of 200", y.takes(0, 200), NONE);
    }

    private static void takesLike() {
        at(10, "A VIEW takes the CASES for which the TEST of among is true (all, without it), and that miss no MARK of like.");
        BecauseOf x = with("within 0");
        Texts.view(x, "like ma; like mf");
        Texts.view(x, "like ma; among mf >= 0");
        Texts.view(x, "near ma 1; near mb 1");
        Texts.view(x, "among not ma >= 0");
        Boundary.ask(x, 0, 0, 0, 0);
        Boundary.ask(x, 0, 0, 0, 0, 0);
        Boundary.ask(x, 0, 0, 0, 0, 0, NONE, NONE, NONE, NONE, 0);
        Boundary.ask(x, 0, 0, 0, 0, NONE, NONE, NONE, NONE, NONE, 9);
        int[] taken = {4, 1, 1, 4, 2};
        for (int v = 0; v < 5; v++) due("takes(" + v + ", NONE)", x.takes(v, NONE), taken[v]);
        due("takes(1, 0)", x.takes(1, 0), 2);
        due("takes(4, 0)", x.takes(4, 0), 0);
        due("takes(4, 1)", x.takes(4, 1), 3);
        // a MARK that is told no more, and one that is told at last
        x.mark(2, 5, NONE);
        x.mark(1, 5, 0);
        due("takes(1, NONE)", x.takes(1, NONE), 1);
        due("takes(1, 0)", x.takes(1, 0), 1);
    }

    // ---- 11: table

    private static void table() {
        at(11, "Of those taken of a TRAIT what 0: how many, 1: LET");
        BecauseOf x = with("among office = 0");
        for (int trait = 0; trait < 2; trait++) {
            for (int what = 0; what < 2; what++) due("table of nobody", x.table(0, trait, what), 0);
        }
        Boundary.many(x, 1, 0, 2);
        Boundary.many(x, 1, 1, 1);
        Boundary.many(x, 2, 1, 2);
        Boundary.many(x, 1, 1, 0);
        x.asks(0, 1, 2, 0);
        int[][] want = {{1, 1}, {4, 2}};
        for (int trait = 0; trait < 2; trait++) {
            for (int what = 0; what < 2; what++) due("table(0, " + trait + ", " + what + ")", x.table(0, trait, what), want[trait][what]);
        }

        at(11, "NONE without these.");
        due("table(0, 1, 1)", x.table(0, 1, 1), 2);
        Boundary.beside("table of a VIEW", v -> x.table(v, 0, 0), 0, 0, NONE);
        Boundary.beside("table of a TRAIT", t -> x.table(0, t, 0), 0, 1, NONE);
        Boundary.beside("table of what", what -> x.table(0, 0, what), 0, 1, NONE);

        at(11, "Of a VIEW: LET are those that it takes with STAGE 2.");
        BecauseOf y = with("within 5");
        Boundary.many(y, 1, 0, 1);
        due("table(0, 0, 1) of STAGE 1", y.table(0, 0, 1), 0);
        Boundary.many(y, 199, 0, 2);
        due("table(0, 0, 1)", y.table(0, 0, 1), 199);
        due("table(0, 0, 0) of 200", y.table(0, 0, 0), 200);
    }

    // ---- 12: gap

    private static void gaps(String of, BecauseOf x, int above, int below) {
        due("gap(0, 0) of " + of, x.gap(0, 0), above);
        due("gap(0, 1) of " + of, x.gap(0, 1), below);
    }

    private static void gap() {
        at(12, "below the line above 0 (none, if it takes none of a TRAIT)");
        BecauseOf x = with("within 5");
        gaps("nobody", x, 0, 0);
        Boundary.many(x, 1, 0, 2);
        gaps("TRAIT 0 alone", x, 0, 0);
        Boundary.many(x, 1, 1, 0);
        gaps("one each, TRAIT 0 LET", x, 1, 1);
        BecauseOf y = with("within 5");
        Boundary.many(y, 1, 1, 2);
        gaps("TRAIT 1 alone", y, 0, 0);
        Boundary.many(y, 1, 0, 0);
        gaps("one each, TRAIT 1 LET", y, -1, 1);
        BecauseOf z = with("among trait = 0");
        Boundary.many(z, 1, 0, 2);
        Boundary.many(z, 1, 1, 0);
        gaps("one each, TRAIT 0 taken alone", z, 0, 0);

        at(12, "GAP part 0: above the line, 1: below it; 0 by 0: none; NONE without these (another part, too).");
        due("gap(0, 0)", x.gap(0, 0), 1);
        due("gap(0, 1)", x.gap(0, 1), 1);
        Boundary.beside("gap of a part", part -> x.gap(0, part), 0, 1, NONE);
        Boundary.beside("gap of a VIEW", v -> x.gap(v, 0), 0, 0, NONE);
        Boundary.beside("gap of a VIEW", v -> x.gap(v, 1), 0, 0, NONE);

        at(12, "as a fraction in lowest terms");
        Boundary.many(x, 1, 1, 2);
        gaps("1 less 1/2", x, 1, 2);
        Boundary.many(x, 1, 0, 0);
        gaps("1/2 less 1/2", x, 0, 1);
        BecauseOf w = with("within 5");
        Boundary.many(w, 50, 0, 2);
        Boundary.many(w, 50, 0, 0);
        Boundary.many(w, 25, 1, 2);
        Boundary.many(w, 75, 1, 1);
        gaps("50/100 less 25/100", w, 1, 4);
        BecauseOf v = with("within 5");
        Boundary.many(v, 1, 0, 2);
        Boundary.many(v, 98, 0, 1);
        Boundary.many(v, 1, 1, 2);
        Boundary.many(v, 100, 1, 0);
        gaps("1/99 less 1/101", v, 2, 9999);
        BecauseOf u = with("within 5");
        Boundary.many(u, 1, 0, 1);
        Boundary.many(u, 1, 1, 0);
        gaps("0/1 less 0/1", u, 0, 1);
    }

    // ---- 13: luck

    private static void lucks(String of, BecauseOf x, long some, long all) {
        due("luck(0, 0) of " + of, x.luck(0, 0), some);
        due("luck(0, 1) of " + of, x.luck(0, 1), all);
    }

    private static void luck() {
        at(13, "LUCK: of all ways to choose as many as are LET from all it takes, those with not more of TRAIT 1 than there are LET");
        BecauseOf x = with("within 5");
        lucks("nobody", x, 1, 1);
        Boundary.many(x, 2, 0, 1);
        lucks("two, none LET", x, 1, 1);
        Boundary.many(x, 2, 1, 2);
        // of two of TRAIT 0 and two of TRAIT 1, two LET
        lucks("both LET of TRAIT 1", x, 6, 6);
        BecauseOf y = with("within 5");
        Boundary.many(y, 1, 0, 2);
        Boundary.many(y, 1, 0, 0);
        Boundary.many(y, 1, 1, 2);
        Boundary.many(y, 1, 1, 0);
        lucks("one LET each", y, 5, 6);
        BecauseOf z = with("within 5");
        Boundary.many(z, 2, 0, 2);
        Boundary.many(z, 2, 1, 0);
        lucks("both LET of TRAIT 0", z, 1, 6);
        BecauseOf w = with("within 5");
        Boundary.many(w, 3, 1, 2);
        Boundary.many(w, 3, 0, 2);
        lucks("all LET", w, 1, 1);

        at(13, "NONE without these, or above 60 CASES.");
        due("luck(0, 0)", w.luck(0, 0), 1);
        Boundary.beside("luck of a part", part -> w.luck(0, part), 0, 1, NONE);
        Boundary.beside("luck of a VIEW", v -> w.luck(v, 0), 0, 0, NONE);
        Boundary.beside("luck of a VIEW", v -> w.luck(v, 1), 0, 0, NONE);
    }

    private static void luckFull() {
        at(13, "(60 CASES at most)");
        BecauseOf x = with("within 5");
        Texts.view(x, "among not stage = 1");
        Boundary.many(x, 29, 0, 2);
        Boundary.many(x, 29, 1, 0);
        lucks("58", x, 1, 30067266499541040L);
        Boundary.many(x, 1, 0, 2);
        lucks("59", x, 1, 59132290782430712L);
        Boundary.many(x, 1, 1, 0);
        lucks("60", x, 1, 118264581564861424L);
        Boundary.many(x, 1, 1, 1);
        lucks("61", x, NONE, NONE);
        // it is by those taken
        due("luck(1, 0) of 60 of 61", x.luck(1, 0), 1);
        due("luck(1, 1) of 60 of 61", x.luck(1, 1), 118264581564861424L);
        Boundary.many(x, 139, 1, 1);
        lucks("200", x, NONE, NONE);
        due("luck(1, 1) of 60 of 200", x.luck(1, 1), 118264581564861424L);
        // the greatest: all ways, in each of the 31
        BecauseOf y = with("within 5");
        Boundary.many(y, 30, 1, 2);
        Boundary.many(y, 30, 0, 0);
        lucks("60, all LET of TRAIT 1", y, 118264581564861424L, 118264581564861424L);
        // all of one TRAIT
        BecauseOf z = with("within 5");
        Boundary.many(z, 30, 1, 2);
        Boundary.many(z, 30, 1, 0);
        lucks("60 of TRAIT 1", z, 118264581564861424L, 118264581564861424L);
        BecauseOf w = with("within 5");
        Boundary.many(w, 60, 0, 2);
        lucks("60, all LET", w, 1, 1);
        Boundary.many(w, 1, 0, 2);
        lucks("61, all LET", w, NONE, NONE);
    }

    // ---- 14: group

    private static void group() {
        at(14, "How many GROUPS there are (g NONE); of GROUP g what 0 to 3");
        BecauseOf x = with("like ma");
        Texts.view(x, "near ma 1");
        due("group(0, NONE, 0) of nobody", x.group(0, NONE, 0), 0);
        due("group(1, NONE, 0) of nobody", x.group(1, NONE, 0), 0);
        due("group(0, 0, 0) of nobody", x.group(0, 0, 0), NONE);
        due("group(1, 0, 0) of nobody", x.group(1, 0, 0), NONE);
        Boundary.ask(x, 0, 0, 0, 0);
        due("group(0, NONE, 0): a MARK of like is missing", x.group(0, NONE, 0), 0);
        due("group(1, NONE, 0)", x.group(1, NONE, 0), 1);
        Boundary.ask(x, 1, 0, 2, 0, 9);
        Boundary.ask(x, 0, 0, 2, 0, 0);
        Boundary.ask(x, 1, 0, 1, 0, 9);
        Boundary.ask(x, 0, 0, 2, 0, 9);
        due("group(0, NONE, 0)", x.group(0, NONE, 0), 2);
        due("group(1, NONE, 0)", x.group(1, NONE, 0), 1);
        int[][] want = {{1, 1, 2, 1, 2000}, {1, 1, 0, 0, NONE}};
        for (int g = 0; g < 2; g++) {
            for (int what = 0; what < 5; what++) due("group(0, " + g + ", " + what + ")", x.group(0, g, what), want[g][what]);
        }

        at(14, "NONE without these.");
        due("group(0, 1, 4)", x.group(0, 1, 4), NONE);
        due("group(0, 1, 0)", x.group(0, 1, 0), 1);
        Boundary.beside("group of a VIEW", v -> x.group(v, 0, 0), 0, 1, NONE);
        Boundary.beside("groups of a VIEW", v -> x.group(v, NONE, 0), 0, 1, NONE);
        Boundary.beside("group g", g -> x.group(0, g, 0), NONE, 1, NONE);
        Boundary.beside("the only group g", g -> x.group(1, g, 0), NONE, 0, NONE);
        Boundary.beside("group what", what -> x.group(0, 0, what), 0, 4, NONE);
    }

    private static void groupMany() {
        at(14, "GROUPS: those taken that have the same in all MARKS of like, in the order of their first CASES.");
        BecauseOf x = with("like mf; like ma");
        for (int k = 0; k < 100; k++) {
            x.asks(k % 2, 0, 2, 0);
            x.mark(k, 0, (99 - k) / 10);
            x.mark(k, 5, (99 - k) % 10);
        }
        due("group(0, NONE, 0) of a hundred", x.group(0, NONE, 0), 100);
        due("group(0, 0, 0)", x.group(0, 0, 0), 1);
        due("group(0, 99, 0)", x.group(0, 99, 0), 0);
        due("group(0, 99, 2)", x.group(0, 99, 2), 1);
        due("group(0, 99, 3)", x.group(0, 99, 3), 1);
        due("group(0, 100, 0)", x.group(0, 100, 0), NONE);
        // one more of the last GROUP, and it has both TRAITS
        x.asks(0, 0, 2, 0);
        x.mark(100, 0, 0);
        x.mark(100, 5, 0);
        due("group(0, NONE, 0)", x.group(0, NONE, 0), 100);
        due("group(0, 99, 4)", x.group(0, 99, 4), 1000);
        due("group(0, 98, 4)", x.group(0, 98, 4), NONE);
        // all six MARKS, at both ends: five the same are not the same
        BecauseOf y = with("like ma;like mb;like mc;like md;like me;like mf");
        Boundary.ask(y, 0, 0, 0, 0, 9, 9, 9, 9, 9, 9);
        Boundary.ask(y, 0, 0, 0, 0, 9, 9, 9, 9, 9, 8);
        Boundary.ask(y, 0, 0, 0, 0, 8, 9, 9, 9, 9, 9);
        Boundary.ask(y, 0, 0, 0, 0, 0, 0, 0, 0, 0, 0);
        Boundary.ask(y, 0, 0, 0, 0, 0, 0, 0, 0, 0, NONE);
        Boundary.ask(y, 1, 0, 0, 0, 0, 0, 0, 0, 0, 0);
        Boundary.ask(y, 1, 0, 0, 0, 9, 9, 9, 9, 9, 9);
        Boundary.ask(y, 1, 0, 0, 0, 0, 0, 0, 0, 1, 0);
        Boundary.ask(y, 1, 0, 0, 0, 0, 0, 0, 0, 0, 9);
        due("group(0, NONE, 0)", y.group(0, NONE, 0), 6);
        int[][] want = {{1, 1}, {1, 0}, {1, 0}, {1, 1}, {0, 1}, {0, 1}};
        for (int g = 0; g < 6; g++) {
            due("group(0, " + g + ", 0)", y.group(0, g, 0), want[g][0]);
            due("group(0, " + g + ", 2)", y.group(0, g, 2), want[g][1]);
        }
    }

    private static void would() {
        at(14, "4: WOULD (NONE without both TRAITS).");
        BecauseOf x = with("within 5");
        Boundary.many(x, 2, 0, 0);
        due("group(0, 0, 4) of TRAIT 0 alone", x.group(0, 0, 4), NONE);
        Boundary.many(x, 1, 1, 0);
        due("group(0, 0, 4) of none LET", x.group(0, 0, 4), 0);
        BecauseOf y = with("within 5");
        Boundary.many(y, 2, 1, 2);
        due("group(0, 0, 4) of TRAIT 1 alone", y.group(0, 0, 4), NONE);
        Boundary.many(y, 1, 0, 2);
        due("group(0, 0, 4) of all LET", y.group(0, 0, 4), 2000);

        at(14, "WOULD: how many of TRAIT 1 by the SHARE of TRAIT 0, in thousandths, downwards.");
        Boundary.many(y, 2, 0, 1);
        due("group(0, 0, 4) of 2 by 1/3", y.group(0, 0, 4), 666);
        Boundary.many(y, 1, 1, 0);
        due("group(0, 0, 4) of 3 by 1/3", y.group(0, 0, 4), 1000);
        Boundary.many(y, 1, 0, 2);
        due("group(0, 0, 4) of 3 by 1/2", y.group(0, 0, 4), 1500);
        BecauseOf z = with("within 5");
        Boundary.many(z, 1, 0, 2);
        Boundary.many(z, 199, 1, 0);
        due("group(0, 0, 4) of 199 by 1", z.group(0, 0, 4), 199000);
        BecauseOf w = with("within 5");
        Boundary.many(w, 198, 0, 2);
        Boundary.many(w, 1, 0, 0);
        Boundary.many(w, 1, 1, 0);
        due("group(0, 0, 4) of 1 by 198/199", w.group(0, 0, 4), 994);
    }

    // ---- 15: lacks

    private static void lacks() {
        at(15, "-1000000 without it.");
        BecauseOf x = with("within 5");
        due("lacks(0) of nobody", x.lacks(0), 0);
        Boundary.beside("lacks of a VIEW", x::lacks, 0, 0, -1000000);
        due("lacks(0) without a VIEW", new BecauseOf().lacks(0), -1000000);

        at(15, "Of a GROUP with both TRAITS");
        Boundary.many(x, 1, 1, 2);
        due("lacks(0) of TRAIT 1 alone", x.lacks(0), 0);
        Boundary.many(x, 1, 0, 0);
        due("lacks(0) of both", x.lacks(0), -1000);
        BecauseOf y = with("within 5");
        Boundary.many(y, 1, 0, 2);
        due("lacks(0) of TRAIT 0 alone", y.lacks(0), 0);
        Boundary.many(y, 1, 1, 0);
        due("lacks(0) of both", y.lacks(0), 1000);

        at(15, "LACKS: all WOULD together, less a thousand for each LET of TRAIT 1 in these GROUPS.");
        Boundary.many(y, 1, 1, 1);
        due("lacks(0) of 2000 less 0", y.lacks(0), 2000);
        Boundary.many(y, 1, 1, 2);
        due("lacks(0) of 3000 less 1000", y.lacks(0), 2000);
        // the least and the greatest of 200
        Boundary.many(x, 198, 1, 2);
        due("lacks(0) of 0 less 199000", x.lacks(0), -199000);
        Boundary.many(y, 196, 1, 0);
        due("lacks(0) of 199000 less 1000", y.lacks(0), 198000);
        // each WOULD downwards by itself, and GROUPS of one TRAIT don't count
        BecauseOf z = with("like ma");
        for (int m = 0; m < 3; m++) {
            Boundary.ask(z, 0, 0, 2, 0, m);
            Boundary.ask(z, 0, 0, 0, 0, m);
            Boundary.ask(z, 0, 0, 0, 0, m);
            Boundary.ask(z, 1, 0, 0, 0, m);
        }
        due("lacks(0) of three times a third", z.lacks(0), 999);
        Boundary.ask(z, 1, 0, 2, 0, 8);
        Boundary.ask(z, 0, 0, 2, 0, 7);
        due("lacks(0) with GROUPS of one TRAIT", z.lacks(0), 999);
        Boundary.ask(z, 0, 0, 0, 0, 8);
        due("lacks(0) when one of them has both", z.lacks(0), -1);
    }

    // ---- 16: pairs

    private static void paired(String of, BecauseOf x, int many, int sum) {
        due("pairs(0, 0) of " + of, x.pairs(0, 0), many);
        due("pairs(0, 1) of " + of, x.pairs(0, 1), sum);
    }

    private static void pairs() {
        at(16, "PAIRS what 0: how many, 1: the sum; NONE without these.");
        BecauseOf x = with("near ma 5");
        paired("nobody", x, 0, 0);
        Boundary.ask(x, 0, 0, 0, 0, 3);
        paired("TRAIT 0 alone", x, 0, 0);
        Boundary.ask(x, 1, 0, 0, 0, 5);
        paired("one each", x, 1, 10);
        Boundary.beside("pairs of a VIEW", v -> x.pairs(v, 0), 0, 0, NONE);
        Boundary.beside("pairs what", what -> x.pairs(0, what), 0, 1, NONE);
        BecauseOf y = with("near ma 5");
        Boundary.ask(y, 1, 0, 0, 0, 3);
        Boundary.ask(y, 1, 0, 0, 0, 3);
        paired("TRAIT 1 alone", y, 0, 0);

        at(16, "with the same MARKS of like, no MARK of near missing");
        BecauseOf z = with("like mb; near ma 5; near mf 1");
        Boundary.ask(z, 0, 0, 0, 0, 3, 7, NONE, NONE, NONE, 2);
        Boundary.ask(z, 1, 0, 0, 0, 3, 7, NONE, NONE, NONE, 2);
        paired("the same", z, 1, 0);
        z.mark(1, 1, 6);
        paired("one with another MARK of like", z, 0, 0);
        z.mark(1, 1, 7);
        z.mark(1, 5, NONE);
        paired("one that misses a MARK of near", z, 0, 0);
        z.mark(0, 5, NONE);
        paired("both missing the same MARK of near", z, 0, 0);
        z.mark(1, 5, 0);
        z.mark(0, 5, 0);
        paired("both with MARKS of 0", z, 1, 0);
        z.mark(0, 0, NONE);
        paired("the other missing a MARK of near", z, 0, 0);
        BecauseOf w = with("within 0");
        Boundary.ask(w, 0, 0, 0, 0);
        Boundary.ask(w, 1, 0, 0, 0, 9);
        paired("any, without MARKS of near", w, 1, 0);
    }

    /** So many of a TRAIT with ma 9, who find nobody, and then one with ma 0, who finds one of the other TRAIT. */
    private static BecauseOf behind(int before, int trait, String view) {
        BecauseOf x = with(view);
        for (int i = 0; i < before; i++) Boundary.ask(x, trait, 0, 0, 0, 9);
        Boundary.ask(x, trait, 0, 0, 0, 0);
        Boundary.ask(x, 1 - trait, 0, 0, 0, 0);
        return x;
    }

    private static void pairsFirstTen() {
        at(16, "of the first ten CASES taken of TRAIT 0 and the first ten of TRAIT 1");
        for (int trait = 0; trait < 2; trait++) {
            paired("the tenth of TRAIT " + trait, behind(9, trait, "near ma 1; within 8"), 1, 0);
            paired("the eleventh of TRAIT " + trait, behind(10, trait, "near ma 1; within 8"), 0, 0);
            // those not taken are none of the ten
            paired("the eleventh, of these ten not taken", behind(10, trait, "near ma 1; within 8; among ma = 0"), 1, 0);
            // those that find nobody are of the ten
            BecauseOf x = behind(10, trait, "near ma 1; within 8");
            for (int k = 0; k < 10; k++) x.mark(k, 0, NONE);
            paired("the eleventh, ten without the MARK", x, 0, 0);
            // those that miss a MARK of like are not taken
            BecauseOf y = behind(10, trait, "like ma");
            for (int k = 0; k < 10; k++) y.mark(k, 0, NONE);
            paired("the eleventh, ten without the MARK of like", y, 1, 0);
        }
        BecauseOf z = with("near ma 99; near mb 12");
        for (int i = 0; i < 10; i++) {
            Boundary.ask(z, 0, 0, 0, 0, 0, 0);
            Boundary.ask(z, 1, 0, 0, 0, 9, 9);
            paired((i + 1) + " each, at 999", z, i + 1, 999 * (i + 1));
        }
        Boundary.ask(z, 0, 0, 0, 0, 9, 9);
        Boundary.ask(z, 1, 0, 0, 0, 0, 0);
        paired("eleven each", z, 10, 9990);

        at(16, "as many as can be are put together, two and two of unlike TRAIT");
        BecauseOf w = with("near ma 1; within 4");
        Boundary.ask(w, 0, 0, 0, 0, 5);
        Boundary.ask(w, 0, 0, 0, 0, 1);
        Boundary.ask(w, 1, 0, 0, 0, 5);
        paired("two who both reach one", w, 1, 0);
        Boundary.ask(w, 1, 0, 0, 0, 9);
        paired("two, though one would be nearer", w, 2, 8);
        w.mark(3, 0, NONE);
        w.mark(0, 0, 6);
        paired("one alone: the least sum", w, 1, 1);
    }

    private static void pairsDistance() {
        at(16, "a distance not above within (999 without)");
        String[] near = {"near ma 5; within 10", "near ma 5; within 9", "near ma 5; within 11", "near ma 1; within 2", "near ma 1; within 1"};
        int[] sum = {10, NONE, 10, 2, NONE};
        for (int i = 0; i < near.length; i++) {
            for (int turn = 0; turn < 2; turn++) {
                BecauseOf x = with(near[i]);
                Boundary.ask(x, 0, 0, 0, 0, 4 + 2 * turn);
                Boundary.ask(x, 1, 0, 0, 0, 6 - 2 * turn);
                paired("a difference of two by " + near[i], x, sum[i] < 0 ? 0 : 1, Math.max(sum[i], 0));
            }
        }
        // 9 * 99 + 9 * 12 is 999; one more is too far, told or not
        String[] far = {"near ma 99; near mb 12", "near ma 99; near mb 12; within 999", "near ma 99; near mb 12; near mc 1",
            "near ma 99; near mb 12; near mc 1; within 999", "near ma 99; near mb 12; within 998"};
        for (int i = 0; i < far.length; i++) {
            BecauseOf x = with(far[i]);
            Boundary.ask(x, 0, 0, 0, 0, 0, 9, 1);
            Boundary.ask(x, 1, 0, 0, 0, 9, 0, 0);
            paired("two at both ends by " + far[i], x, i < 2 ? 1 : 0, i < 2 ? 999 : 0);
        }
        BecauseOf y = with("near ma 1; within 0");
        Boundary.ask(y, 0, 0, 0, 0, 7);
        Boundary.ask(y, 1, 0, 0, 0, 7);
        paired("the same within 0", y, 1, 0);
        y.mark(0, 0, 8);
        paired("another within 0", y, 0, 0);
        // the greatest distance there is
        BecauseOf z = with("near ma 99; near mb 99; near mc 99; near md 99; near me 99; near mf 99");
        Boundary.ask(z, 0, 0, 0, 0, 0, 0, 0, 0, 0, 0);
        Boundary.ask(z, 1, 0, 0, 0, 9, 9, 9, 9, 9, 9);
        paired("5346", z, 0, 0);
        for (int m = 1; m < 6; m++) z.mark(0, m, 9);
        paired("891", z, 1, 891);

        at(16, "the sum of NUMBER times the difference of the MARK (without sign) over near.");
        BecauseOf v = with("near mf 7; near ma 10; near mc 1");
        Boundary.ask(v, 0, 0, 0, 0, 0, 9, 4, NONE, NONE, 9);
        Boundary.ask(v, 1, 0, 0, 0, 3, 0, 3, NONE, NONE, 0);
        paired("30 and 1 and 63", v, 1, 94);
        v.mark(0, 0, 3);
        v.mark(0, 2, 2);
        v.mark(1, 5, 9);
        paired("0 and 1 and 0", v, 1, 1);
        v.mark(0, 2, 3);
        paired("0 and 0 and 0", v, 1, 0);

        at(16, "and the least sum of distances of so many");
        BecauseOf w = with("near ma 1");
        Boundary.ask(w, 0, 0, 0, 0, 0);
        Boundary.ask(w, 0, 0, 0, 0, 4);
        Boundary.ask(w, 1, 0, 0, 0, 4);
        Boundary.ask(w, 1, 0, 0, 0, 9);
        // 4 + 5 or 9 + 0: the same
        paired("two ways alike", w, 2, 9);
        w.mark(3, 0, 3);
        // 4 + 1 or 3 + 0
        paired("two ways unlike", w, 2, 3);
    }

    // ---- 17: next

    private static void next() {
        at(17, "NEXT; -2: there is none; NONE without it.");
        BecauseOf x = with("within 5");
        due("next(0) of nobody", x.next(0), -2);
        Boundary.beside("next of a VIEW", x::next, 0, 0, NONE);
        due("next(0) without a VIEW", new BecauseOf().next(0), NONE);
        Boundary.ask(x, 0, 0, 0, 0);
        Boundary.ask(x, 1, 0, 0, 0);
        due("next(0): no MARKS are told", x.next(0), -2);
        x.mark(0, 5, 3);
        due("next(0): one alone has the MARK", x.next(0), -2);
        x.mark(1, 5, 4);
        due("next(0): no GROUP of both", x.next(0), -2);
        x.mark(1, 5, 3);
        due("next(0)", x.next(0), 5);

        at(17, "NEXT: the MARK not yet named in like");
        String five = "like ma; like mb; like mc; like md; like me";
        int[] want = {5, -2, 5};
        String[] views = {five, five + "; like mf", five + "; near mf 3"};
        for (int i = 0; i < 3; i++) {
            BecauseOf y = with(views[i]);
            for (int trait = 0; trait < 2; trait++) Boundary.ask(y, trait, 0, 0, 0, 0, 0, 0, 0, 0, 0);
            due("next(0) of <" + views[i] + ">", y.next(0), want[i]);
            y.mark(0, 0, NONE);
            due("next(0) of <" + views[i] + "> when one misses ma", y.next(0), -2);
        }
        BecauseOf z = with("like ma");
        for (int trait = 0; trait < 2; trait++) Boundary.ask(z, trait, 0, 0, 0, 0, 0);
        due("next(0) of <like ma>", z.next(0), 1);
    }

    private static void nextLeast() {
        at(17, "LACKS is least (without sign) of all for which there is a GROUP of both TRAITS; of several the least.");
        BecauseOf x = with("within 5");
        // TRAIT 0: LET, not; TRAIT 1: not, LET
        Boundary.ask(x, 0, 0, 2, 0, 1, 1, 1);
        Boundary.ask(x, 0, 0, 0, 0, 1, 2, 2);
        Boundary.ask(x, 1, 0, 0, 0, 1, 1, 2);
        Boundary.ask(x, 1, 0, 2, 0, 1, 3, 1);
        // by ma 1000 - 1000, by mb 1000, by mc 1000 + 0 - 1000
        due("next(0): of two with 0 the least", x.next(0), 0);
        x.mark(0, 0, NONE);
        // by ma 0 - 1000
        due("next(0): 0 before -1000", x.next(0), 2);
        x.mark(0, 2, NONE);
        // by mc 0
        due("next(0): 0 before 1000 and -1000", x.next(0), 2);
        x.mark(3, 2, 2);
        // by mc 0 - 1000
        due("next(0): of 1000 and -1000 the least", x.next(0), 0);
        x.mark(0, 0, 1);
        x.mark(1, 0, NONE);
        x.mark(3, 0, NONE);
        // by ma 1000 - 0
        due("next(0): of 1000 and -1000 the least", x.next(0), 0);
        x.mark(1, 2, NONE);
        x.mark(2, 0, NONE);
        // by ma no GROUP of both, by mb 1000, by mc none
        due("next(0): by a GROUP of both alone", x.next(0), 1);
        // TRAIT 1 two LET by ma -2000, by mb -1000
        BecauseOf y = with("within 5");
        Boundary.ask(y, 0, 0, 0, 0, 1, 1);
        Boundary.ask(y, 1, 0, 2, 0, 1, 1);
        Boundary.ask(y, 1, 0, 2, 0, 1, 2);
        due("next(0): -1000 before -2000", y.next(0), 1);
        y.mark(2, 1, 1);
        due("next(0): -2000 and -2000", y.next(0), 0);
    }

    // ---- 18: sway

    private static void swayed(String of, BecauseOf x, int k, int lacks) {
        due("sway(0, 0) of " + of, x.sway(0, 0), k);
        due("sway(0, 1) of " + of, x.sway(0, 1), lacks);
    }

    private static void sway() {
        at(18, "of a VIEW that takes none NONE, -1000000; NONE without these.");
        BecauseOf x = with("within 5");
        swayed("nobody", x, NONE, -1000000);
        Boundary.beside("sway of a VIEW", v -> x.sway(v, 0), 0, 0, NONE);
        Boundary.beside("sway of a VIEW", v -> x.sway(v, 1), 0, 0, NONE);
        Boundary.beside("sway what", what -> x.sway(0, what), 0, 1, NONE);
        due("sway(0, 1) without a VIEW", new BecauseOf().sway(0, 1), NONE);
        Boundary.many(x, 1, 1, 2);
        swayed("one", x, 0, 0);
        Boundary.beside("sway what", what -> x.sway(0, what), 0, 1, NONE);
        BecauseOf y = with("among trait = 1");
        Boundary.many(y, 2, 0, 2);
        swayed("none taken of two", y, NONE, -1000000);
        Boundary.many(y, 1, 1, 2);
        swayed("the one taken of three", y, 2, 0);
    }

    private static void swayLeast() {
        at(18, "SWAY what 0: the CASE, 1: LACKS without it");
        BecauseOf v = with("within 5");
        Boundary.many(v, 1, 0, 2);
        Boundary.many(v, 2, 1, 0);
        // 2000; without 0 there is no GROUP of both, without 1 or 2: 1000
        swayed("2000", v, 0, 0);
        Boundary.many(v, 1, 0, 2);
        // 2000; without 0 or 3: 2000, without 1 or 2: 1000
        swayed("2000, two of TRAIT 0", v, 1, 1000);

        at(18, "SWAY: the CASE taken without which LACKS would be least (without sign); of several the least.");
        BecauseOf x = with("within 5");
        Boundary.many(x, 2, 0, 0);
        Boundary.many(x, 3, 1, 2);
        // -3000; without one of TRAIT 1 -2000
        swayed("-3000", x, 2, -2000);
        due("lacks(0)", x.lacks(0), -3000);
        BecauseOf y = with("within 5");
        Boundary.many(y, 1, 1, 2);
        Boundary.many(y, 1, 0, 0);
        Boundary.many(y, 1, 1, 2);
        // -2000; without the only one of TRAIT 0 there is no GROUP of both
        swayed("-2000, one of TRAIT 0", y, 1, 0);
        Boundary.many(y, 1, 0, 2);
        // 1000 - 2000; without 0 or 2: 500 - 1000, without 1: 2000 - 2000, without 3: -2000
        swayed("-1000", y, 1, 0);
        // the CASE is of a second GROUP: 1000 - 1000 of the first, -1000 of it
        BecauseOf w = with("like ma");
        Boundary.ask(w, 0, 0, 2, 0, 1);
        Boundary.ask(w, 1, 0, 2, 0, 1);
        Boundary.ask(w, 0, 0, 0, 0, 2);
        Boundary.ask(w, 1, 0, 2, 0, 2);
        swayed("0 and -1000", w, 2, 0);
        // without sign: 1000 and -1000 are the same far
        BecauseOf z = with("like ma");
        Boundary.ask(z, 0, 0, 2, 0, 1);
        Boundary.ask(z, 1, 0, 0, 0, 1);
        Boundary.ask(z, 0, 0, 0, 0, 2);
        Boundary.ask(z, 1, 0, 2, 0, 2);
        // 1000 - 1000; without 0 or 1: -1000, without 2 or 3: 1000
        swayed("1000 - 1000", z, 0, -1000);
        Boundary.ask(z, 1, 0, 0, 0, 1);
        // 2000 - 1000; without 1 or 4: 0, without 0: -1000
        swayed("2000 - 1000", z, 1, 0);
    }
}
