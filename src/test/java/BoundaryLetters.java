/** The boundaries of promises 19 to 25: LETTERS, and those who never asked. */
final class BoundaryLetters {
    private static final int NONE = Boundary.NONE;

    private BoundaryLetters() {
    }

    static void all() {
        letter();
        turned();
        coin();
        coinFull();
        hidden();
        hiddenFull();
        edge();
        edgeLeast();
        ends();
        endsOfNobody();
        claim();
        claimBounds();
    }

    private static void at(int promise, String words) {
        Boundary.at(promise, words);
    }

    private static void due(String call, long got, long want) {
        Boundary.due(call, got, want);
    }

    // ---- 19 and 20: LETTERS

    private static void letter() {
        at(19, "A LETTER: its number; NONE: there are 200, or no such OFFICE.");
        BecauseOf x = new BecauseOf();
        due("letter to OFFICE 0", x.letter(0, true, false), 0);
        due("letter to OFFICE 7", x.letter(7, false, true), 1);
        String before = Boundary.state(x);
        Boundary.beside("letter to an OFFICE", o -> x.letter(o, true, true), 0, 7, NONE);
        Boundary.same("refused letters", before, Boundary.state(x));
        due("the next letter", x.letter(0, true, true), 2);
        due("turned(NONE, 0)", x.turned(NONE, 0), 3);

        at(19, "LETTERS, 200 at most: two sent to an OFFICE, alike but for the TRAIT");
        Boundary.send(x, 5, 196, 0);
        due("the 200th letter", x.letter(6, false, true), 199);
        due("count(1)", x.count(1), 200);
        due("the 201st letter", x.letter(6, false, true), NONE);
        due("the 201st letter, to no OFFICE", x.letter(8, false, true), NONE);
        due("count(1)", x.count(1), 200);
        due("turned(6, 0)", x.turned(6, 0), 1);
        due("turned(NONE, 0)", x.turned(NONE, 0), 200);
        due("turned(NONE, 2)", x.turned(NONE, 2), 197);
        // an IMAGE that holds fewer makes room again
        BecauseOf y = new BecauseOf();
        Boundary.send(y, 1, 0, 199);
        y.image(0);
        due("the 200th letter", y.letter(2, true, false), 199);
        due("the 201st letter", y.letter(2, true, false), NONE);
        y.back(0);
        due("turned(2, 0)", y.turned(2, 0), 0);
        due("the 200th letter once more", y.letter(3, true, false), 199);
        due("the 201st letter once more", y.letter(3, true, false), NONE);
        due("turned(3, 2)", y.turned(3, 2), 1);
    }

    private static void turned() {
        at(20, "By an OFFICE (NONE: all) what 0: LETTERS, 1: n, 2: h; NONE without these.");
        BecauseOf x = new BecauseOf();
        for (int office = NONE; office < 8; office++) {
            for (int what = 0; what < 3; what++) due("turned(" + office + ", " + what + ") of none", x.turned(office, what), 0);
        }
        x.letter(0, true, false);
        x.letter(7, false, true);
        for (int what = 0; what < 3; what++) {
            due("turned(NONE, " + what + ")", x.turned(NONE, what), what == 2 ? 1 : 2);
            due("turned(0, " + what + ")", x.turned(0, what), 1);
            due("turned(7, " + what + ")", x.turned(7, what), what == 2 ? 0 : 1);
            due("turned(3, " + what + ")", x.turned(3, what), 0);
        }
        Boundary.beside("turned by an OFFICE", o -> x.turned(o, 0), NONE, 7, NONE);
        Boundary.beside("turned what", what -> x.turned(NONE, what), 0, 2, NONE);

        at(20, "TURNED: those of which just one was answered; of these n to TRAIT 0 alone h.");
        boolean[][] answered = {{false, false}, {true, true}, {true, false}, {false, true}};
        for (int i = 0; i < 4; i++) {
            BecauseOf y = new BecauseOf();
            y.letter(4, answered[i][0], answered[i][1]);
            due("turned(4, 0) of " + i, y.turned(4, 0), 1);
            due("turned(4, 1) of " + i, y.turned(4, 1), i < 2 ? 0 : 1);
            due("turned(4, 2) of " + i, y.turned(4, 2), i == 2 ? 1 : 0);
        }
    }

    // ---- 21: coin

    private static void coins(BecauseOf x, int office, long some, long all) {
        due("coin(" + office + ", 0)", x.coin(office, 0), some);
        due("coin(" + office + ", 1)", x.coin(office, 1), all);
    }

    private static void coin() {
        at(21, "COIN: of 2^n ways those with h or more heads");
        BecauseOf x = new BecauseOf();
        coins(x, NONE, 1, 1);
        coins(x, 0, 1, 1);
        x.letter(0, true, true);
        coins(x, 0, 1, 1);
        // 0, 1, 2 and 3 heads of 3
        int[] ways = {8, 7, 4, 1};
        for (int h = 0; h < 4; h++) {
            Boundary.send(x, 1 + h, h, 3 - h);
            coins(x, 1 + h, ways[h], 8);
        }
        Boundary.send(x, 5, 1, 0);
        coins(x, 5, 1, 2);
        Boundary.send(x, 6, 0, 1);
        coins(x, 6, 2, 2);

        at(21, "COIN part 0: those ways, 1: all; NONE without these, or if n is above 60.");
        due("coin(1, 0)", x.coin(1, 0), 8);
        due("coin(7, 0)", x.coin(7, 0), 1);
        Boundary.beside("coin by an OFFICE", o -> x.coin(o, 0), NONE, 7, NONE);
        Boundary.beside("coin of a part", part -> x.coin(1, part), 0, 1, NONE);
    }

    private static void coinFull() {
        at(21, "(n 60 at most)");
        BecauseOf x = new BecauseOf();
        Boundary.send(x, 2, 59, 0);
        coins(x, 2, 1, 1L << 59);
        x.letter(2, true, true);
        coins(x, 2, 1, 1L << 59);
        x.letter(2, false, true);
        // 59 or 60 heads of 60
        coins(x, 2, 61, 1L << 60);
        coins(x, NONE, 61, 1L << 60);
        x.letter(3, true, false);
        coins(x, 2, 61, 1L << 60);
        coins(x, 3, 1, 2);
        coins(x, NONE, NONE, NONE);
        x.letter(2, false, true);
        coins(x, 2, NONE, NONE);
        BecauseOf y = new BecauseOf();
        Boundary.send(y, 7, 0, 60);
        coins(y, 7, 1L << 60, 1L << 60);
        y.letter(7, false, true);
        coins(y, 7, NONE, NONE);
        BecauseOf z = new BecauseOf();
        Boundary.send(z, 0, 60, 0);
        coins(z, 0, 1, 1L << 60);
        z.letter(0, true, false);
        coins(z, 0, NONE, NONE);
        for (int i = 0; i < 139; i++) z.letter(0, true, false);
        coins(z, 0, NONE, NONE);
    }

    // ---- 22: hidden

    private static void hiddens(BecauseOf x, int office, int g, long above, long below) {
        due("hidden(" + office + ", " + g + ", 0)", x.hidden(office, g, 0), above);
        due("hidden(" + office + ", " + g + ", 1)", x.hidden(office, g, 1), below);
    }

    private static void hidden() {
        at(22, "HIDDEN by g (1 to 20)");
        BecauseOf x = new BecauseOf();
        hiddens(x, NONE, 1, 1, 1);
        hiddens(x, 0, 20, 1, 1);
        Boundary.send(x, 3, 1, 1);
        hiddens(x, 3, 1, 3, 4);
        hiddens(x, 3, 2, 8, 9);
        hiddens(x, 3, 19, 399, 400);
        hiddens(x, 3, 20, 440, 441);
        hiddens(x, 3, 21, NONE, NONE);
        hiddens(x, 3, 0, NONE, NONE);
        Boundary.beside("hidden by g", g -> x.hidden(3, g, 0), 1, 20, NONE);
        Boundary.beside("hidden by g", g -> x.hidden(3, g, 1), 1, 20, NONE);

        at(22, "HIDDEN by g part 0: above the line, 1: below it (not cut down); NONE without these, or if n is above 14.");
        // 2/2, 4/4, 9/16: not cut down, where they could be
        Boundary.send(x, 4, 0, 1);
        hiddens(x, 4, 1, 2, 2);
        hiddens(x, 4, 3, 4, 4);
        hiddens(x, 3, 3, 15, 16);
        Boundary.send(x, 5, 2, 0);
        hiddens(x, 5, 2, 4, 9);
        hiddens(x, 5, 3, 9, 16);
        hiddens(x, 7, 3, 1, 1);
        Boundary.beside("hidden by an OFFICE", o -> x.hidden(o, 2, 0), NONE, 7, NONE);
        Boundary.beside("hidden of a part", part -> x.hidden(5, 2, part), 0, 1, NONE);
    }

    private static void hiddenFull() {
        at(22, "by (1 + g) to the power of n (n 14 at most)");
        BecauseOf x = new BecauseOf();
        Boundary.send(x, 1, 13, 0);
        hiddens(x, 1, 20, 81920000000000000L, 154472377739119461L);
        x.letter(1, false, true);
        // 13 or 14 heads of 14: 14 * 20^13 + 20^14
        hiddens(x, 1, 20, 34L * 81920000000000000L, 3243919932521508681L);
        hiddens(x, 1, 1, 15, 16384);
        x.letter(1, true, true);
        hiddens(x, NONE, 1, 15, 16384);
        x.letter(2, true, false);
        hiddens(x, 1, 20, 34L * 81920000000000000L, 3243919932521508681L);
        hiddens(x, 2, 20, 20, 21);
        hiddens(x, NONE, 1, NONE, NONE);
        x.letter(1, true, false);
        hiddens(x, 1, 20, NONE, NONE);
        hiddens(x, 1, 1, NONE, NONE);
        BecauseOf y = new BecauseOf();
        Boundary.send(y, 0, 0, 14);
        hiddens(y, 0, 20, 3243919932521508681L, 3243919932521508681L);
        BecauseOf z = new BecauseOf();
        Boundary.send(z, 0, 14, 0);
        hiddens(z, 0, 20, 1638400000000000000L, 3243919932521508681L);
        hiddens(z, 0, 1, 1, 16384);
    }

    // ---- 23: edge

    private static void edge() {
        at(23, "NONE without it, or if n is above 14.");
        BecauseOf x = new BecauseOf();
        due("edge(NONE) of none", x.edge(NONE), 1);
        due("edge(0) of none", x.edge(0), 1);
        Boundary.send(x, 7, 14, 0);
        due("edge(7) of 14", x.edge(7), 5);
        due("edge(NONE) of 14", x.edge(NONE), 5);
        due("edge(0)", x.edge(0), 1);
        Boundary.beside("edge by an OFFICE", x::edge, NONE, 7, NONE);
        x.letter(7, false, false);
        due("edge(7) of 14", x.edge(7), 5);
        x.letter(0, true, false);
        due("edge(NONE) of 15", x.edge(NONE), NONE);
        due("edge(7) of 14", x.edge(7), 5);
        due("edge(0) of 1", x.edge(0), 1);
        x.letter(7, true, false);
        due("edge(7) of 15", x.edge(7), NONE);

        // with n 14 at most the edge is 5 at most: so -2 never comes, though 14 of 14 come nearest to it
        at(23, "EDGE; -2: none to 20");
        int[] alone = {1, 1, 1, 1, 1, 2, 2, 2, 3, 3, 3, 4, 4, 4, 5};
        BecauseOf y = new BecauseOf();
        for (int n = 0; n <= 14; n++) {
            due("edge(4) of " + n + " heads alone", y.edge(4), alone[n]);
            y.letter(4, true, false);
        }
        due("edge(4) of 15", y.edge(4), NONE);
    }

    private static void edgeLeast() {
        at(23, "EDGE: the least g with which that is a twentieth or more.");
        // heads, tails, EDGE: 1/16 and 1/32 by 1, 56/1024 and 378/8192 by 1
        int[][] all = {{4, 0, 1}, {5, 0, 2}, {8, 2, 1}, {10, 3, 2}, {11, 1, 2}, {12, 0, 4}, {13, 0, 4}, {0, 14, 1}, {10, 4, 1}, {11, 3, 2}, {13, 1, 3}, {14, 0, 5}};
        for (int[] a : all) {
            BecauseOf x = new BecauseOf();
            Boundary.send(x, 2, a[0], a[1]);
            due("edge(2) of " + a[0] + " heads, " + a[1] + " tails", x.edge(2), a[2]);
            boolean isMore = 20.0 * x.hidden(2, a[2], 0) >= x.hidden(2, a[2], 1);
            boolean wasLess = a[2] == 1 || 20.0 * x.hidden(2, a[2] - 1, 0) < x.hidden(2, a[2] - 1, 1);
            due("a twentieth or more with " + a[2] + ", and not with one less", isMore && wasLess ? 1 : 0, 1);
        }
    }

    // ---- 24: ends

    private static BecauseOf half() {
        BecauseOf x = new BecauseOf();
        Texts.view(x, "within 5");
        Boundary.many(x, 1, 0, 2);
        Boundary.many(x, 1, 0, 1);
        Boundary.many(x, 1, 1, 2);
        Boundary.many(x, 3, 1, 0);
        return x;
    }

    private static void endsAre(BecauseOf x, int p, int q, int... want) {
        for (int what = 0; what < 4; what++) due("ends(0, " + p + ", " + q + ", " + what + ")", x.ends(0, p, q, what), want[what]);
    }

    private static void ends() {
        at(24, "if there were up to p more of TRAIT 0, q of TRAIT 1 (0 to 999 each)");
        BecauseOf x = half();
        // 1/2 less 1/4
        endsAre(x, 0, 0, 1, 4, 1, 4);
        endsAre(x, 1, 0, 1, 12, 5, 12);
        endsAre(x, 0, 1, 1, 10, 3, 10);
        // 1/1001 less 1/4, 1000/1001 less 1/4
        endsAre(x, 999, 0, -997, 4004, 2999, 4004);
        // 1/2 less 1000/1003, 1/2 less 1/1003
        endsAre(x, 0, 999, -997, 2006, 1001, 2006);
        // 1/1001 less 1000/1003, 1000/1001 less 1/1003
        endsAre(x, 999, 999, -999997, 1004003, 1001999, 1004003);
        for (int what = 0; what < 4; what++) {
            int of = what;
            Boundary.beside("ends with p", p -> x.ends(0, p, 0, of), 0, 999, -2000000);
            Boundary.beside("ends with q", q -> x.ends(0, 0, q, of), 0, 999, -2000000);
        }

        at(24, "ENDS what 0: above the line of the least, 1: below it, 2, 3: of the greatest, each in lowest terms; 0 by 0: a TRAIT has nobody then; -2000000 without these.");
        due("ends(0, 0, 0, 0)", x.ends(0, 0, 0, 0), 1);
        due("ends(0, 0, 0, 3)", x.ends(0, 0, 0, 3), 4);
        Boundary.beside("ends what", what -> x.ends(0, 0, 0, what), 0, 3, -2000000);
        Boundary.beside("ends of a VIEW", v -> x.ends(v, 0, 0, 0), 0, 0, -2000000);
        // 1/4 less 3/6, 3/4 less 1/6
        endsAre(x, 2, 2, -1, 4, 7, 12);
        // 1/3 less 4/7, 2/3 less 1/7
        endsAre(x, 1, 3, -5, 21, 11, 21);
        // 1/8 less 1/4, 7/8 less 1/4
        endsAre(x, 6, 0, -1, 8, 5, 8);
    }

    private static void endsOfNobody() {
        at(24, "0 by 0: a TRAIT has nobody then");
        BecauseOf x = new BecauseOf();
        Texts.view(x, "within 5");
        endsAre(x, 0, 0, 0, 0, 0, 0);
        endsAre(x, 999, 0, 0, 0, 0, 0);
        endsAre(x, 0, 999, 0, 0, 0, 0);
        endsAre(x, 1, 1, -1, 1, 1, 1);
        endsAre(x, 999, 999, -1, 1, 1, 1);
        Boundary.many(x, 1, 0, 2);
        endsAre(x, 0, 0, 0, 0, 0, 0);
        endsAre(x, 1, 0, 0, 0, 0, 0);
        endsAre(x, 0, 1, 0, 1, 1, 1);
        BecauseOf y = new BecauseOf();
        Texts.view(y, "within 5");
        Boundary.many(y, 1, 1, 2);
        endsAre(y, 0, 1, 0, 0, 0, 0);
        endsAre(y, 1, 0, -1, 1, 0, 1);

        at(24, "the least GAP (all p and q are there: none of the p LET, all of the q), the greatest (the other way round).");
        endsAre(half(), 1, 1, -1, 15, 7, 15);
        BecauseOf z = new BecauseOf();
        Texts.view(z, "within 5");
        Boundary.many(z, 100, 0, 2);
        Boundary.many(z, 100, 1, 0);
        endsAre(z, 0, 0, 1, 1, 1, 1);
        endsAre(z, 999, 999, -899, 1099, 1, 1);
    }

    // ---- 25: claim

    private static void claim() {
        at(25, "The CLAIM of so many thousandths (-1000 to 1000): 0, 1, 2; NONE without these, or without ENDS.");
        BecauseOf x = half();
        due("claim of -1000", x.claim(0, 0, 0, -1000), 2);
        due("claim of 1000", x.claim(0, 0, 0, 1000), 0);
        Boundary.beside("claim of thousandths", t -> x.claim(0, 0, 0, t), -1000, 1000, NONE);
        due("claim with 999 and 999", x.claim(0, 999, 999, 0), 1);
        Boundary.beside("claim with p", p -> x.claim(0, p, 0, 0), 0, 999, NONE);
        Boundary.beside("claim with q", q -> x.claim(0, 0, q, 0), 0, 999, NONE);
        Boundary.beside("claim of a VIEW", v -> x.claim(v, 0, 0, 0), 0, 0, NONE);
        BecauseOf y = new BecauseOf();
        Texts.view(y, "within 5");
        due("claim of nobody", y.claim(0, 0, 0, 0), NONE);
        due("claim of nobody", y.claim(0, 0, 0, -1000), NONE);
        due("claim with p alone", y.claim(0, 1, 0, 0), NONE);
        due("claim with q alone", y.claim(0, 0, 1, 0), NONE);
        due("claim with one each", y.claim(0, 1, 1, 0), 1);
        Boundary.many(y, 1, 0, 2);
        due("claim of TRAIT 0 alone", y.claim(0, 5, 0, 0), NONE);
        due("claim of TRAIT 0, one of TRAIT 1", y.claim(0, 0, 1, 0), 2);
        BecauseOf z = new BecauseOf();
        Texts.view(z, "within 5");
        Boundary.many(z, 1, 1, 2);
        due("claim of TRAIT 1 alone", z.claim(0, 0, 5, 0), NONE);
        due("claim of TRAIT 1, one of TRAIT 0", z.claim(0, 1, 0, 0), 1);
    }

    private static void claims(BecauseOf x, int p, int q, int... thousandthsAndAnswers) {
        for (int i = 0; i < thousandthsAndAnswers.length; i += 2) {
            int t = thousandthsAndAnswers[i];
            due("claim(0, " + p + ", " + q + ", " + t + ")", x.claim(0, p, q, t), thousandthsAndAnswers[i + 1]);
        }
    }

    private static void claimBounds() {
        at(25, "A CLAIM that the GAP is so many thousandths at least: 2 it follows (the least is), 0 it can't be (the greatest is below), 1 it may be.");
        BecauseOf x = half();
        // the GAP is 1/4
        claims(x, 0, 0, 249, 2, 250, 2, 251, 0);
        // from 83 1/3 to 416 2/3 thousandths
        claims(x, 1, 0, 83, 2, 84, 1, 416, 1, 417, 0);
        // from 100 to 300 thousandths
        claims(x, 0, 1, 99, 2, 100, 2, 101, 1, 299, 1, 300, 1, 301, 0);
        // 1/8 less 1/4, 7/8 less 1/4: from -125 to 625 thousandths
        claims(x, 6, 0, -126, 2, -125, 2, -124, 1, 0, 1, 624, 1, 625, 1, 626, 0);
        // from -5/21 to 11/21: -238.1 and 523.8 thousandths
        claims(x, 1, 3, -239, 2, -238, 1, 523, 1, 524, 0);
        BecauseOf y = new BecauseOf();
        Texts.view(y, "within 5");
        Boundary.many(y, 1, 0, 2);
        Boundary.many(y, 1, 1, 0);
        claims(y, 0, 0, 1000, 2, 999, 2);
        claims(y, 1, 0, 500, 2, 501, 1, 1000, 1);
        BecauseOf z = new BecauseOf();
        Texts.view(z, "within 5");
        Boundary.many(z, 1, 0, 0);
        Boundary.many(z, 1, 1, 2);
        claims(z, 0, 0, -1000, 2, -999, 0);
        claims(z, 1, 0, -1000, 2, -999, 1, -500, 1, -499, 0);
        claims(z, 0, 1, -1000, 2, -999, 1, -500, 1, -499, 0);
        // from -1 to 1
        BecauseOf w = new BecauseOf();
        Texts.view(w, "within 5");
        claims(w, 1, 1, -1000, 2, -999, 1, 999, 1, 1000, 1);
    }
}
