/** The boundaries of promises 26 to 32: sights, what goes by way of a MARK, MEASURES. */
final class BoundaryMeasures {
    private static final int NONE = Boundary.NONE;

    private BoundaryMeasures() {
    }

    static void all() {
        sight();
        even();
        evenOffices();
        way();
        wayValues();
        split();
        splitOfNobody();
        holds();
        nearest();
        nearestBars();
        nearestLeast();
        clash();
        clashWithin();
    }

    private static void at(int promise, String words) {
        Boundary.at(promise, words);
    }

    private static void due(String call, long got, long want) {
        Boundary.due(call, got, want);
    }

    /** An object with one VIEW of all. */
    private static BecauseOf all0() {
        BecauseOf x = new BecauseOf();
        Texts.view(x, "within 5");
        return x;
    }

    // ---- 26: sight

    private static void sight() {
        at(26, "At first sight (0) pass those of STAGE 1 and 2, of all; at second (1) those of STAGE 2, of those that passed at first.");
        BecauseOf x = all0();
        int[][] want = {{0, 0, 0, 0}, {1, 0, 0, 0}, {2, 1, 1, 0}, {3, 2, 2, 1}};
        for (int people = 0; people < 4; people++) {
            // of STAGE 0, then of 1, then of 2
            if (people > 0) Boundary.many(x, 1, 1, people - 1);
            for (int i = 0; i < 4; i++) {
                due("sight(0, " + i / 2 + ", 1, " + i % 2 + ") of " + people, x.sight(0, i / 2, 1, i % 2), want[people][i]);
                due("sight(0, " + i / 2 + ", 0, " + i % 2 + ") of nobody", x.sight(0, i / 2, 0, i % 2), 0);
            }
        }

        at(26, "NONE without these.");
        due("sight(0, 1, 1, 1)", x.sight(0, 1, 1, 1), 1);
        due("sight(0, 0, 0, 0)", x.sight(0, 0, 0, 0), 0);
        Boundary.beside("sight of a VIEW", v -> x.sight(v, 0, 1, 0), 0, 0, NONE);
        Boundary.beside("sight of a sight", s -> x.sight(0, s, 1, 0), 0, 1, NONE);
        Boundary.beside("sight of a TRAIT", t -> x.sight(0, 0, t, 0), 0, 1, NONE);
        Boundary.beside("sight what", what -> x.sight(0, 0, 1, what), 0, 1, NONE);
        Boundary.many(x, 197, 1, 2);
        due("sight(0, 0, 1, 0) of 200", x.sight(0, 0, 1, 0), 200);
        due("sight(0, 1, 1, 1) of 200", x.sight(0, 1, 1, 1), 198);
    }

    // ---- 27: even

    private static void evens(String of, BecauseOf x, int first, int second, int all, int each) {
        int[] want = {first, second, all, each};
        for (int what = 0; what < 4; what++) due("even(0, " + what + ") of " + of, x.even(0, what), want[what]);
    }

    private static void even() {
        at(27, "EVEN is a sight if both TRAITS have the same SHARE at it (or one TRAIT has none there)");
        BecauseOf x = all0();
        evens("nobody", x, 1, 1, 1, 1);
        Boundary.many(x, 1, 0, 2);
        evens("TRAIT 0 alone", x, 1, 1, 1, 1);
        Boundary.many(x, 1, 1, 2);
        evens("one each LET", x, 1, 1, 1, 1);
        Boundary.many(x, 1, 1, 1);
        evens("1/1 and 2/2, 1/1 and 1/2", x, 1, 0, 0, 0);
        Boundary.many(x, 1, 0, 1);
        evens("2/2 and 2/2, 1/2 and 1/2", x, 1, 1, 1, 1);
        BecauseOf y = all0();
        Boundary.many(y, 1, 1, 0);
        evens("TRAIT 1 alone", y, 1, 1, 1, 1);
        Boundary.many(y, 1, 0, 1);
        // nobody of TRAIT 1 is there at the second sight
        evens("1/1 and 0/1, 0/1 and none", y, 0, 1, 1, 1);
        Boundary.many(y, 1, 0, 2);
        evens("2/2 and 0/1, 1/2 and none", y, 0, 1, 0, 0);
        Boundary.many(y, 1, 1, 1);
        evens("2/2 and 1/2, 1/2 and 0/1", y, 0, 0, 0, 0);

        at(27, "in all, likewise by LET of all");
        BecauseOf z = all0();
        Boundary.many(z, 2, 0, 2);
        Boundary.many(z, 2, 0, 0);
        Boundary.many(z, 1, 1, 2);
        evens("2/4 and 1/1", z, 0, 1, 0, 0);
        Boundary.many(z, 1, 1, 1);
        evens("2/4 and 1/2", z, 0, 0, 1, 1);
        BecauseOf w = all0();
        Boundary.many(w, 99, 0, 2);
        Boundary.many(w, 1, 0, 0);
        Boundary.many(w, 98, 1, 2);
        Boundary.many(w, 1, 1, 0);
        // 99/100 and 98/99: just not the same
        evens("99/100 and 98/99", w, 0, 1, 0, 0);

        at(27, "1 if EVEN is what 0: the first sight, 1: the second, 2: in all, 3: OFFICES each, else 0; NONE without these.");
        due("even(0, 1)", w.even(0, 1), 1);
        due("even(0, 3)", w.even(0, 3), 0);
        Boundary.beside("even of a VIEW", v -> w.even(v, 0), 0, 0, NONE);
        Boundary.beside("even of a VIEW, OFFICES each", v -> w.even(v, 3), 0, 0, NONE);
        Boundary.beside("even what", what -> w.even(0, what), 0, 3, NONE);
    }

    private static void evenOffices() {
        at(27, "OFFICES are EVEN each if in each OFFICE both are (or one TRAIT has none in it).");
        for (int office = 0; office < 8; office++) {
            BecauseOf x = all0();
            for (int other = 0; other < 8; other++) {
                x.asks(0, other, 2, 0);
                if (other != office) x.asks(1, other, 2, 0);
            }
            evens("one TRAIT alone in OFFICE " + office, x, 1, 1, 1, 1);
            x.asks(1, office, 0, 0);
            evens("not so in OFFICE " + office, x, 0, 1, 0, 0);
            x.asks(1, (office + 1) % 8, 0, 0);
            x.asks(0, office, 0, 0);
            x.asks(0, (office + 1) % 8, 0, 0);
            // OFFICE: 1/2 and 0/1, the next: 1/2 and 1/2
            due("even(0, 3)", x.even(0, 3), 0);
            x.asks(1, office, 2, 0);
            due("even(0, 3): all OFFICES", x.even(0, 3), 1);
        }
        BecauseOf y = all0();
        y.asks(0, 0, 2, 0);
        y.asks(1, 7, 0, 0);
        evens("one TRAIT alone in each", y, 0, 1, 0, 1);
    }

    // ---- 28: way

    private static void way() {
        at(28, "0 if a TRAIT has nobody with the MARK.");
        BecauseOf x = all0();
        due("way(0, 0) of nobody", x.way(0, 0), 0);
        Boundary.ask(x, 0, 0, 2, 0);
        Boundary.ask(x, 1, 0, 2, 0, 5, NONE, NONE, NONE, NONE, 5);
        for (int m = 0; m < 6; m++) due("way(0, " + m + ") of TRAIT 1 alone", x.way(0, m), 0);
        x.mark(0, 0, 4);
        x.mark(0, 5, 4);
        for (int m = 0; m < 6; m++) due("way(0, " + m + ")", x.way(0, m), m == 0 || m == 5 ? -1000000 : 0);
        x.mark(1, 0, NONE);
        due("way(0, 0) of TRAIT 0 alone", x.way(0, 0), 0);
        due("way(0, 5)", x.way(0, 5), -1000000);

        at(28, "BY WAY of a MARK, in millionths; -10000000 without these.");
        due("way(0, 5)", x.way(0, 5), -1000000);
        due("way(0, 4)", x.way(0, 4), 0);
        Boundary.beside("way of a VIEW", v -> x.way(v, 5), 0, 0, -10000000);
        Boundary.beside("way of a MARK", m -> x.way(0, m), 0, 5, -10000000);
    }

    private static void wayValues() {
        at(28, "BY WAY of a MARK: over its values 0 to 9 that some CASE taken of TRAIT 1 has");
        for (int v = 0; v < 10; v++) {
            BecauseOf x = all0();
            Boundary.ask(x, 0, 0, 2, 0, v);
            Boundary.ask(x, 1, 0, 2, 0, v);
            Boundary.ask(x, 1, 0, 0, 0, 9 - v);
            // (1 - 1/2) times 1
            due("way(0, 0) with the value " + v, x.way(0, 0), 500000);
            x.mark(0, 0, 9 - v);
            // (0 - 1/2) times 1
            due("way(0, 0) with the value " + v + " of TRAIT 1 alone", x.way(0, 0), -500000);
            Boundary.ask(x, 0, 0, 2, 0, (v + 1) % 10);
            // 9 - v is LET of nobody, and one more value of TRAIT 0 alone counts not; or it is 9 - v
            due("way(0, 0) with a value of TRAIT 0 alone", x.way(0, 0), -500000);
        }

        at(28, "(towards 0, value by value)");
        BecauseOf y = all0();
        // TRAIT 0: 0, 9, 9. TRAIT 1: 0 (LET), 0, 9 (LET)
        Boundary.ask(y, 0, 0, 0, 0, 0);
        Boundary.ask(y, 0, 0, 0, 0, 9);
        Boundary.ask(y, 0, 0, 0, 0, 9);
        Boundary.ask(y, 1, 0, 2, 0, 0);
        Boundary.ask(y, 1, 0, 0, 0, 0);
        Boundary.ask(y, 1, 0, 2, 0, 9);
        // (333333 - 666666) / 2 is -166666, not -166667; (666666 - 333333) / 1
        due("way(0, 0) of -166666.5 and 333333", y.way(0, 0), 166667);
        y.mark(1, 0, 0);
        y.mark(0, 0, 0);
        y.mark(5, 0, 8);
        // (666666 - 666666) / 2, (0 - 333333)
        due("way(0, 0) of 0 and -333333", y.way(0, 0), -333333);

        at(28, "downwards, less the same for TRAIT 1");
        BecauseOf z = all0();
        // TRAIT 0: 2 of 3 with 0; TRAIT 1: 1 of 7 with 0, LET: 666666 - 142857
        for (int i = 0; i < 3; i++) Boundary.ask(z, 0, 0, 0, 0, i / 2);
        for (int i = 0; i < 7; i++) Boundary.ask(z, 1, 0, i == 0 ? 2 : 0, 0, i == 0 ? 0 : 5);
        due("way(0, 0) of 666666 less 142857", z.way(0, 0), 523809);
        z.mark(0, 0, 1);
        // 333333 - 142857
        due("way(0, 0) of 333333 less 142857", z.way(0, 0), 190476);
        z.mark(1, 0, 1);
        due("way(0, 0) of 0 less 142857", z.way(0, 0), -142857);
    }

    // ---- 29: split

    private static void splits(String of, BecauseOf x, int... want) {
        for (int m = 0; m < 4; m++) {
            due("split(0, " + m + ", 0) of " + of, x.split(0, m, 0), want[2 * m]);
            due("split(0, " + m + ", 1) of " + of, x.split(0, m, 1), want[2 * m + 1]);
        }
    }

    private static void split() {
        at(29, "SPLIT of a MEASURE part 0: above the line, 1: below it; 0 by 0: none (a TRAIT has nobody for it); NONE without these (another part, too).");
        BecauseOf x = all0();
        splits("nobody", x, 0, 0, 0, 0, 0, 0, 0, 0);
        x.asks(0, 0, 2, 1);
        x.asks(1, 0, 2, 1);
        splits("one each, LET and good", x, 0, 1, 0, 1, 0, 0, 0, 1);
        Boundary.beside("split of a VIEW", v -> x.split(v, 0, 0), 0, 0, NONE);
        Boundary.beside("split of a MEASURE", m -> x.split(0, m, 0), 0, 3, NONE);
        Boundary.beside("split of a MEASURE", m -> x.split(0, m, 1), 0, 3, NONE);
        Boundary.beside("split of a part", part -> x.split(0, 0, part), 0, 1, NONE);
        Boundary.beside("split of a part", part -> x.split(0, 2, part), 0, 1, NONE);

        at(29, "MEASURES: 0 LET of all; 1 LET of those that came good; 2 LET of those that came bad; 3 came good of the LET (of which it is known).");
        x.asks(0, 0, 1, 0);
        splits("0/1 that came bad of TRAIT 0", x, -1, 2, 0, 1, 0, 0, 0, 1);
        x.asks(1, 0, 2, 0);
        splits("1/1 that came bad of TRAIT 1", x, -1, 2, 0, 1, -1, 1, 1, 2);
        x.asks(1, 0, 1, 1);
        splits("STAGE 1 is not LET", x, -1, 6, 1, 2, -1, 1, 1, 2);
        x.asks(1, 0, 2, NONE);
        splits("LET, and not known what came", x, -1, 4, 1, 2, -1, 1, 1, 2);
        BecauseOf y = all0();
        // 1/1 less 0/1, and the other way round
        y.asks(0, 0, 2, 1);
        y.asks(1, 0, 0, 1);
        splits("1 less 0", y, 1, 1, 1, 1, 0, 0, 0, 0);
        BecauseOf z = all0();
        z.asks(0, 0, 0, 0);
        z.asks(1, 0, 2, 0);
        splits("0 less 1", z, -1, 1, 0, 0, -1, 1, 0, 0);
    }

    private static void splitOfNobody() {
        at(29, "0 by 0: none (a TRAIT has nobody for it)");
        for (int trait = 0; trait < 2; trait++) {
            int sign = trait == 0 ? 1 : -1;
            BecauseOf x = all0();
            x.asks(trait, 0, 2, 1);
            x.asks(trait, 0, 2, 0);
            splits("one TRAIT alone", x, 0, 0, 0, 0, 0, 0, 0, 0);
            x.asks(1 - trait, 0, 0, NONE);
            splits("not known what came of the other", x, sign, 1, 0, 0, 0, 0, 0, 0);
            x.asks(1 - trait, 0, 2, NONE);
            splits("LET, and not known what came of the other", x, sign, 2, 0, 0, 0, 0, 0, 0);
            x.asks(1 - trait, 0, 0, 1);
            splits("the other came good, not LET", x, 2 * sign, 3, sign, 1, 0, 0, 0, 0);
            x.asks(1 - trait, 0, 0, 0);
            splits("the other came bad, not LET", x, 3 * sign, 4, sign, 1, sign, 1, 0, 0);
            x.asks(1 - trait, 0, 2, 0);
            splits("the other came bad, LET", x, 3 * sign, 5, sign, 1, sign, 2, sign, 2);
        }
    }

    // ---- 30: holds

    private static void hold(String of, BecauseOf x, int measure, int t, int want) {
        due("holds(0, " + measure + ", " + t + ") of " + of, x.holds(0, measure, t), want);
    }

    private static void holds() {
        at(30, "1 if a MEASURE HOLDS within t thousandths (0 to 1000), 0 if not (or it has no SPLIT); NONE without these.");
        BecauseOf x = all0();
        for (int m = 0; m < 4; m++) {
            hold("nobody", x, m, 0, 0);
            hold("nobody", x, m, 1000, 0);
        }
        x.asks(0, 0, 2, 1);
        hold("TRAIT 0 alone", x, 0, 1000, 0);
        x.asks(1, 0, 2, NONE);
        hold("the same", x, 0, 0, 1);
        hold("the same", x, 0, 1000, 1);
        hold("no SPLIT", x, 1, 1000, 0);
        hold("no SPLIT", x, 3, 1000, 0);
        Boundary.beside("holds within t", t -> x.holds(0, 0, t), 0, 1000, NONE);
        Boundary.beside("holds of a MEASURE", m -> x.holds(0, m, 0), 0, 3, NONE);
        Boundary.beside("holds of a VIEW", v -> x.holds(v, 0, 0), 0, 0, NONE);

        at(30, "It HOLDS within t thousandths: the SPLIT, without sign, is not above that.");
        for (int trait = 0; trait < 2; trait++) {
            BecauseOf y = all0();
            Boundary.many(y, 1, trait, 2);
            Boundary.many(y, 1, 1 - trait, 0);
            hold("1 less 0", y, 0, 1000, 1);
            hold("1 less 0", y, 0, 999, 0);
            Boundary.many(y, 1, trait, 0);
            hold("1/2 less 0", y, 0, 500, 1);
            hold("1/2 less 0", y, 0, 499, 0);
            Boundary.many(y, 1, trait, 1);
            hold("1/3 less 0", y, 0, 333, 0);
            hold("1/3 less 0", y, 0, 334, 1);
            Boundary.many(y, 1, 1 - trait, 2);
            hold("1/3 less 1/2", y, 0, 166, 0);
            hold("1/3 less 1/2", y, 0, 167, 1);
            Boundary.many(y, 1, 1 - trait, 1);
            hold("1/3 less 1/3", y, 0, 0, 1);
        }
        BecauseOf z = all0();
        Boundary.many(z, 99, 0, 2);
        Boundary.many(z, 1, 0, 0);
        Boundary.many(z, 98, 1, 2);
        Boundary.many(z, 1, 1, 0);
        // 1/9900
        hold("99/100 less 98/99", z, 0, 0, 0);
        hold("99/100 less 98/99", z, 0, 1, 1);
    }

    // ---- 31: nearest

    private static void nearests(String of, BecauseOf x, int measure, int t, int c0, int c1, int right) {
        int[] want = {c0, c1, right};
        for (int what = 0; what < 3; what++) {
            due("nearest(0, 0, " + measure + ", " + t + ", " + what + ") of " + of, x.nearest(0, 0, measure, t, what), want[what]);
        }
    }

    private static void nearest() {
        at(31, "NEAREST what 0: c0, 1: c1, 2: RIGHT; -2: none; NONE without these (t 0 to 1000).");
        BecauseOf x = all0();
        nearests("nobody", x, 0, 1000, -2, -2, -2);
        Boundary.ask(x, 0, 0, 0, 1, 5, NONE, NONE, NONE, NONE, 5);
        nearests("TRAIT 0 alone", x, 0, 1000, -2, -2, -2);
        Boundary.ask(x, 1, 0, 0, 1, 5, NONE, NONE, NONE, NONE, 5);
        nearests("one each", x, 0, 1000, 0, 0, 2);
        nearests("one each", x, 0, 0, 0, 0, 2);
        for (int what = 0; what < 3; what++) {
            int of = what;
            due("nearest by mf", x.nearest(0, 5, 0, 0, what), what == 2 ? 2 : 0);
            due("nearest by mb", x.nearest(0, 1, 0, 1000, what), -2);
            due("nearest by MEASURE 3", x.nearest(0, 0, 3, 0, what), what == 2 ? 2 : 0);
            due("nearest by MEASURE 2, none came bad", x.nearest(0, 0, 2, 1000, what), -2);
            Boundary.beside("nearest of a VIEW", v -> x.nearest(v, 0, 0, 0, of), 0, 0, NONE);
            Boundary.beside("nearest of a MARK", m -> x.nearest(0, m, 0, 0, of), 0, 5, NONE);
            Boundary.beside("nearest of a MEASURE", m -> x.nearest(0, 0, m, 0, of), 0, 3, NONE);
            Boundary.beside("nearest within t", t -> x.nearest(0, 0, 0, t, of), 0, 1000, NONE);
        }
        Boundary.beside("nearest what", what -> x.nearest(0, 0, 0, 0, what), 0, 2, NONE);
        Boundary.beside("nearest what, when there is none", what -> x.nearest(0, 1, 0, 0, what), 0, 2, NONE);

        at(31, "among CASES taken that have the MARK and of which it is known what came");
        BecauseOf y = all0();
        Boundary.ask(y, 0, 0, 0, 1, 5);
        Boundary.ask(y, 1, 0, 0, NONE, 5);
        nearests("TRAIT 1 not known", y, 0, 1000, -2, -2, -2);
        Boundary.ask(y, 1, 0, 0, 1);
        nearests("TRAIT 1 known without the MARK", y, 0, 1000, -2, -2, -2);
        Boundary.ask(y, 1, 0, 0, 0, 0);
        nearests("TRAIT 1 with the MARK and known", y, 0, 1000, 0, 1, 2);
    }

    private static void nearestBars() {
        at(31, "two bars c0, c1 (0 to 10): LET would be those whose MARK is c0 or more (TRAIT 0), c1 (TRAIT 1)");
        BecauseOf x = all0();
        Boundary.ask(x, 0, 0, 0, 0, 9);
        Boundary.ask(x, 1, 0, 0, 0, 9);
        nearests("bad with 9", x, 0, 0, 10, 10, 2);
        // with one of them LET the SPLIT is 1
        nearests("bad with 9", x, 0, 1000, 10, 10, 2);
        BecauseOf y = all0();
        Boundary.ask(y, 0, 0, 0, 1, 0);
        Boundary.ask(y, 1, 0, 0, 1, 0);
        nearests("good with 0", y, 0, 0, 0, 0, 2);
        BecauseOf z = all0();
        Boundary.ask(z, 0, 0, 0, 1, 0);
        Boundary.ask(z, 1, 0, 0, 0, 9);
        nearests("good with 0, bad with 9", z, 0, 1000, 0, 10, 2);
        nearests("good with 0, bad with 9", z, 0, 999, 0, 0, 1);
        BecauseOf w = all0();
        Boundary.ask(w, 0, 0, 0, 0, 9);
        Boundary.ask(w, 1, 0, 0, 1, 0);
        nearests("bad with 9, good with 0", w, 0, 1000, 10, 0, 2);
        nearests("bad with 9, good with 0", w, 0, 999, 0, 0, 1);
        // c or more: with c itself LET, with one less not
        for (int v = 0; v < 9; v++) {
            BecauseOf u = all0();
            for (int trait = 0; trait < 2; trait++) {
                Boundary.ask(u, trait, 0, 0, 0, trait == 0 ? v : 8 - v);
                Boundary.ask(u, trait, 0, 0, 1, trait == 0 ? v + 1 : 9 - v);
            }
            nearests("bad with " + v + ", good with one more", u, 0, 0, v + 1, 9 - v, 4);
        }
    }

    private static void nearestLeast() {
        at(31, "so that a MEASURE (by what would be LET) HOLDS within t thousandths");
        BecauseOf x = all0();
        // TRAIT 0 good with 5, bad with 3 and 2; TRAIT 1 good with 5 and 4, bad with 3
        int[][] all = {{0, 1, 5}, {0, 0, 3}, {0, 0, 2}, {1, 1, 5}, {1, 1, 4}, {1, 0, 3}};
        for (int[] a : all) Boundary.ask(x, a[0], 0, 2, a[1], a[2]);
        // all RIGHT: 1/3 less 2/3
        nearests("a third", x, 0, 334, 4, 4, 6);
        nearests("a third", x, 0, 333, 3, 4, 5);
        nearests("a third", x, 0, 0, 3, 4, 5);
        // LET of the good: 1/1 less 2/2, of the bad 0/2 less 0/1
        nearests("the good", x, 1, 0, 4, 4, 6);
        nearests("the bad", x, 2, 0, 4, 4, 6);
        nearests("good of the LET", x, 3, 0, 4, 4, 6);

        at(31, "with the most RIGHT (LET and good, or not and bad); of several the least c0, then c1.");
        BecauseOf y = all0();
        Boundary.ask(y, 0, 0, 0, 1, 5);
        Boundary.ask(y, 0, 0, 0, 0, 7);
        Boundary.ask(y, 1, 0, 0, 1, 4);
        Boundary.ask(y, 1, 0, 0, 0, 6);
        // 1 RIGHT of each by 0 to 5 and 8 to 10, by 0 to 4 and 7 to 10
        nearests("of many the least", y, 0, 1000, 0, 0, 2);
        nearests("of many the least", y, 0, 500, 0, 0, 2);
        Boundary.ask(y, 0, 0, 0, 0, 6);
        // 2 RIGHT of TRAIT 0 by 8 to 10 alone
        nearests("the least with the most RIGHT", y, 0, 1000, 8, 0, 3);
        // none LET of TRAIT 0, and so none of TRAIT 1
        nearests("the least with the most RIGHT", y, 0, 0, 8, 7, 3);
        Boundary.ask(y, 1, 0, 0, 1, 5);
        // of TRAIT 1 2 RIGHT by 0 to 4: both SPLIT by 1
        nearests("the SPLIT of 1", y, 0, 1000, 8, 0, 4);
        nearests("all LET", y, 0, 999, 0, 0, 3);
    }

    // ---- 32: clash

    private static void clash() {
        at(32, "NONE without these (two unlike MEASURES).");
        BecauseOf x = all0();
        Boundary.ask(x, 0, 0, 0, 1, 5, NONE, NONE, NONE, NONE, 5);
        Boundary.ask(x, 1, 0, 0, 1, 5, NONE, NONE, NONE, NONE, 5);
        due("clash of 0 and 1", x.clash(0, 0, 0, 1, 1000), 121);
        due("clash of 1 and 0 by mf", x.clash(0, 5, 1, 0, 1000), 121);
        due("clash of 0 and 3", x.clash(0, 0, 0, 3, 1000), 36);
        for (int m = 0; m < 4; m++) due("clash of two alike", x.clash(0, 0, m, m, 1000), NONE);
        Boundary.beside("clash of a VIEW", v -> x.clash(v, 0, 0, 1, 0), 0, 0, NONE);
        Boundary.beside("clash of a MARK", m -> x.clash(0, m, 0, 1, 0), 0, 5, NONE);
        Boundary.beside("clash of a first MEASURE", m -> x.clash(0, 0, m, 1, 0), 0, 3, NONE);
        Boundary.beside("clash of a second MEASURE", m -> x.clash(0, 0, 0, m, 0), 0, 3, NONE);
        due("clash of two alike that are none", x.clash(0, 0, 4, 4, 0), NONE);

        at(32, "CLASH (t 0 to 1000)");
        due("clash within 0", x.clash(0, 0, 0, 1, 0), 61);
        due("clash within 999", x.clash(0, 0, 0, 1, 999), 61);
        due("clash within 1000", x.clash(0, 0, 0, 1, 1000), 121);
        Boundary.beside("clash within t", t -> x.clash(0, 0, 0, 1, t), 0, 1000, NONE);
    }

    private static void clashWithin() {
        at(32, "how many pairs of such bars there are with which both of them HOLD within t thousandths (none: they clash).");
        BecauseOf x = all0();
        due("clash of nobody", x.clash(0, 0, 0, 1, 1000), 0);
        Boundary.ask(x, 0, 0, 0, 1, 5);
        due("clash of TRAIT 0 alone", x.clash(0, 0, 0, 1, 1000), 0);
        Boundary.ask(x, 0, 0, 0, 0, 0);
        Boundary.ask(x, 1, 0, 0, 1, 5);
        // by 0: 2/2, by 1 to 5: 1/2, else 0/2; by 0 to 5: 1/1, else 0/1. Of the good: by 0 to 5 all, else none
        due("clash of 0 and 1 within 0", x.clash(0, 0, 0, 1, 0), 6 + 25);
        due("clash of 0 and 1 within 499", x.clash(0, 0, 0, 1, 499), 6 + 25);
        due("clash of 0 and 1 within 500", x.clash(0, 0, 0, 1, 500), 6 + 25 + 30);
        // nobody of TRAIT 1 came bad
        due("clash of 0 and 2 within 1000", x.clash(0, 0, 0, 2, 1000), 0);
        // good of the LET: by 0 a half, by 1 to 5 all, and 0 to 5 all: none where nobody is LET
        due("clash of 0 and 3 within 0", x.clash(0, 0, 0, 3, 0), 0);
        due("clash of 0 and 3 within 499", x.clash(0, 0, 0, 3, 499), 0);
        due("clash of 0 and 3 within 500", x.clash(0, 0, 0, 3, 500), 36);
        due("clash of 3 and 1 within 0", x.clash(0, 0, 3, 1, 0), 30);
        // of those that came bad one has the MARK 0: by 0 2/2, by 1 to 5 1/2, else 0/2; TRAIT 1 by 0 to 5 1/1, else 0/1
        BecauseOf z = all0();
        Boundary.ask(z, 0, 0, 0, 0, 0);
        Boundary.ask(z, 0, 0, 0, 0, 5);
        Boundary.ask(z, 0, 0, 0, 1, 5);
        Boundary.ask(z, 1, 0, 0, 0, 5);
        Boundary.ask(z, 1, 0, 0, 1, 5);
        due("clash of 1 and 2 within 0", z.clash(0, 0, 1, 2, 0), 6 + 25);
        due("clash of 1 and 2 within 499", z.clash(0, 0, 1, 2, 499), 6 + 25);
        due("clash of 1 and 2 within 500", z.clash(0, 0, 1, 2, 500), 6 + 25 + 30);
        // bars at both ends
        BecauseOf y = all0();
        for (int v = 0; v < 10; v++) {
            Boundary.ask(y, 0, 0, 0, 1, v);
            Boundary.ask(y, 0, 0, 0, 0, v);
            Boundary.ask(y, 1, 0, 0, 1, v);
            Boundary.ask(y, 1, 0, 0, 0, v);
        }
        // the same bar for both: 0 to 10, and good of the LET a half but by 10
        due("clash of 0 and 1 within 0", y.clash(0, 0, 0, 1, 0), 11);
        due("clash of 0 and 1 within 99", y.clash(0, 0, 0, 1, 99), 11);
        due("clash of 0 and 1 within 100", y.clash(0, 0, 0, 1, 100), 31);
        due("clash of 2 and 3 within 0", y.clash(0, 0, 2, 3, 0), 10);
        due("clash of 2 and 3 within 1000", y.clash(0, 0, 2, 3, 1000), 100);
    }
}
