/** Each promise by hand: ordinary calls, the edges that the document names, wrong calls. */
public final class PromiseTest {
    private static int wrong = 0;
    private static int promise = 0;

    private static void due(String call, long got, long want) {
        if (got != want) {
            wrong++;
            System.out.println("promise " + promise + ": " + call + " answered " + got + ", due is " + want);
        }
    }

    /** What view() and rule() answer for a FAULT. */
    private static int fault(int place, int code) {
        return -2 - (1 + 8 * place + code);
    }

    /** A CASE with its first MARKS. */
    private static int ask(BecauseOf x, int trait, int office, int stage, int came, int... marks) {
        int k = x.asks(trait, office, stage, came);
        for (int m = 0; m < marks.length; m++) {
            x.mark(k, m, marks[m]);
        }
        return k;
    }

    private static void ask(BecauseOf x, int times, int trait, int stage) {
        for (int i = 0; i < times; i++) {
            x.asks(trait, 0, stage, -1);
        }
    }

    private static void readView(String text, int want) {
        due("view of <" + text + ">", Texts.view(new BecauseOf(), text), want);
    }

    private static void readRule(String text, int want) {
        due("rule of <" + text + ">", Texts.rule(new BecauseOf(), text), want);
        // the same text behind among: as far again along, unless a sign or number of a VIEW ends it
        due("view of <among " + text + ">", Texts.view(new BecauseOf(), "among " + text), want < 0 ? want - 48 : want);
    }

    /** Whether a RULE of this text is true of this CASE. */
    private static void saysOf(BecauseOf x, int k, String text, int want) {
        int rule = Texts.rule(x, text);
        due("says of <" + text + ">", x.says(rule, k), want);
        // room for the next: the same CASES in a new object would do as well
        if (rule == 7) {
            wrong++;
            System.out.println("promise " + promise + ": a test has no room for more rules");
        }
    }

    private static final int BIG = Integer.MAX_VALUE;
    private static final int SMALL = Integer.MIN_VALUE;

    // ---- 1 to 4: CASES

    private static void aNewObject() {
        BecauseOf x = new BecauseOf();
        for (int what = 0; what < 5; what++) {
            due("count(" + what + ")", x.count(what), 0);
        }
        due("told(0, 0)", x.told(0, 0), -2);
        due("takes(0, -1)", x.takes(0, -1), -1);
        due("says(0, 0)", x.says(0, 0), -1);
        due("turned(-1, 0)", x.turned(-1, 0), 0);
        due("back(0)", x.back(0), -1);
        due("NONE", BecauseOf.NONE, -1);
    }

    private static void asks() {
        BecauseOf x = new BecauseOf();
        int[][] bad = {{-1, 0, 0, 0}, {2, 0, 0, 0}, {0, -1, 0, 0}, {0, 8, 0, 0}, {0, 0, -1, 0}, {0, 0, 3, 0},
            {0, 0, 0, -2}, {0, 0, 0, 2}, {BIG, 0, 0, 0}, {0, BIG, 0, 0}, {0, 0, SMALL, 0}, {0, 0, 0, SMALL}};
        for (int[] b : bad) {
            due("asks of something not as told", x.asks(b[0], b[1], b[2], b[3]), -1);
        }
        due("count(0)", x.count(0), 0);
        due("asks(0, 0, 0, -1)", x.asks(0, 0, 0, -1), 0);
        due("asks(1, 7, 2, 1)", x.asks(1, 7, 2, 1), 1);
        due("asks(1, 3, 1, 0)", x.asks(1, 3, 1, 0), 2);
        for (int k = 3; k < 200; k++) {
            due("asks", x.asks(0, 0, 0, 0), k);
        }
        due("asks, the 201st", x.asks(0, 0, 0, 0), -1);
        due("count(0)", x.count(0), 200);
        due("told(199, 3)", x.told(199, 3), 0);
        due("told(200, 3)", x.told(200, 3), -2);
    }

    private static void mark() {
        BecauseOf x = new BecauseOf();
        due("mark without a case", x.mark(0, 0, 5), -2);
        x.asks(0, 0, 0, 0);
        x.asks(0, 0, 0, 0);
        due("mark(0, 0, 5)", x.mark(0, 0, 5), -1);
        due("mark(0, 0, 9)", x.mark(0, 0, 9), 5);
        due("mark(0, 0, 10)", x.mark(0, 0, 10), -2);
        due("mark(0, 0, -2)", x.mark(0, 0, -2), -2);
        due("mark(0, 6, 1)", x.mark(0, 6, 1), -2);
        due("mark(0, -1, 1)", x.mark(0, -1, 1), -2);
        due("mark(2, 0, 1)", x.mark(2, 0, 1), -2);
        due("mark(-1, 0, 1)", x.mark(-1, 0, 1), -2);
        due("mark(BIG, BIG, 1)", x.mark(BIG, BIG, 1), -2);
        due("mark(0, 0, NONE)", x.mark(0, 0, -1), 9);
        due("mark(0, 0, 0)", x.mark(0, 0, 0), -1);
        due("mark(0, 5, 7)", x.mark(0, 5, 7), -1);
        due("told(0, 9)", x.told(0, 9), 7);
        due("told(1, 4)", x.told(1, 4), -1);
        due("told(0, 4)", x.told(0, 4), 0);
    }

    private static void told() {
        BecauseOf x = new BecauseOf();
        ask(x, 1, 6, 2, -1, 3, -1, 0, 9, -1, 8);
        ask(x, 0, 0, 1, 1);
        int[] due = {1, 6, 2, -1, 3, -1, 0, 9, -1, 8};
        for (int what = 0; what < 10; what++) {
            due("told(0, " + what + ")", x.told(0, what), due[what]);
        }
        due("told(1, 0)", x.told(1, 0), 0);
        due("told(1, 3)", x.told(1, 3), 1);
        due("told(1, 9)", x.told(1, 9), -1);
        due("told(0, 10)", x.told(0, 10), -2);
        due("told(0, -1)", x.told(0, -1), -2);
        due("told(0, SMALL)", x.told(0, SMALL), -2);
        due("told(2, 0)", x.told(2, 0), -2);
        due("told(-1, 0)", x.told(-1, 0), -2);
    }

    // ---- 5 to 8: the TAPE and its texts

    private static void feed() {
        BecauseOf x = new BecauseOf();
        // "ma = 1" and fourteen blanks
        due("feed", x.feed(0x6d61203d, 0x20312020, 0x20202020, 0x20202020, 0x20202020), 20);
        due("rule", x.rule(), 0);
        // each number the highest first: the twelfth byte alone is strange
        x.feed(0x6d61203d, 0x20312020, 0x202020ff, 0x20202020, 0x20202020);
        due("rule", x.rule(), fault(11, 0));
        for (int i = 1; i <= 20; i++) {
            due("feed", x.feed(0x20202020, 0x20202020, 0x20202020, 0x20202020, 0x20202020), 20 * i);
        }
        due("feed of more than 400", x.feed(1, 2, 3, 4, 5), -1);
        due("count(4)", x.count(4), 400);
        due("end(381)", x.end(381), 381);
        due("feed of more than 400", x.feed(1, 2, 3, 4, 5), -1);
        due("count(4)", x.count(4), 381);
        due("end(380)", x.end(380), 380);
        due("feed", x.feed(0x20202020, 0x20202020, 0x20202020, 0x20202020, 0x313d3120), 400);
        due("rule", x.rule(), 1);
        due("count(4)", x.count(4), 0);
    }

    private static void end() {
        BecauseOf x = new BecauseOf();
        due("end(0)", x.end(0), 0);
        due("end(1)", x.end(1), -1);
        x.feed(0x6d613d31, 0x32333435, 0x36373839, 0, 0);
        due("end(21)", x.end(21), -1);
        due("end(-1)", x.end(-1), -1);
        due("end(SMALL)", x.end(SMALL), -1);
        due("count(4)", x.count(4), 20);
        due("end(20)", x.end(20), 20);
        due("end(4)", x.end(4), 4);
        due("end(5)", x.end(5), -1);
        due("rule", x.rule(), 0);
        x.asks(0, 0, 0, 0);
        x.mark(0, 0, 1);
        due("says(0, 0)", x.says(0, 0), 1);
    }

    private static void view() {
        BecauseOf x = new BecauseOf();
        due("view of nothing", x.view(), fault(0, 0));
        for (int v = 0; v < 8; v++) {
            due("view", Texts.view(x, "like m" + (char) ('a' + v % 6)), v);
            due("count(4)", x.count(4), 0);
        }
        Texts.put(x, "like");
        due("a ninth view", x.view(), -1);
        due("count(4)", x.count(4), 4);
        due("count(2)", x.count(2), 8);
        due("as a rule", x.rule(), fault(0, 0));
        due("count(4)", x.count(4), 0);

        readView("among ma = 1", 0);
        readView("among 1=1;like ma;near mb 99;within 0", 0);
        readView("  within   999 ;  near mf 1; like me ; among not trait = 0 ", 0);
        readView("within 0005", 0);
        readView("within0005", fault(0, 0));
        readView("near ma 0099", 0);
        readView("near ma5", fault(5, 0));
        readView("nearma 5", fault(0, 0));
        readView("near ma", fault(7, 0));
        readView("near ma ", fault(8, 0));
        readView("near ma 0", fault(8, 1));
        readView("near ma 100", fault(8, 1));
        readView("near ma 00001", fault(8, 1));
        readView("near ma -1", fault(8, 0));
        readView("near ma mb", fault(8, 0));
        readView("near 5 ma", fault(5, 0));
        readView("near trait 5", fault(5, 0));
        readView("near ma 5 5", fault(10, 0));
        readView("near ma 5x", fault(9, 0));
        readView("within 1000", fault(7, 1));
        readView("within 12345", fault(7, 1));
        readView("within ma", fault(7, 0));
        readView("within", fault(6, 0));
        readView("within 5; within 5", fault(10, 4));
        readView("like trait", fault(5, 0));
        readView("like among", fault(5, 0));
        readView("like 12345", fault(5, 0));
        readView("like mab", fault(5, 0));
        readView("like maz", fault(5, 0));
        readView("like ma0", fault(5, 0));
        readView("like ma9", fault(5, 0));
        readView("like m", fault(5, 0));
        readView("like mg", fault(5, 0));
        readView("like ma mb", fault(8, 0));
        readView("like ma; like ma", fault(14, 4));
        readView("like ma; near ma 0", fault(14, 4));
        readView("near mc 3; like mc", fault(16, 4));
        readView("near mc 3; near mc 3", fault(16, 4));
        readView("like ma;", fault(8, 0));
        readView("like ma;;like mb", fault(8, 0));
        readView(";like ma", fault(0, 0));
        readView("   ", fault(3, 0));
        readView("ma = 1", fault(0, 0));
        readView("among", fault(5, 0));
        readView("amongs ma = 1", fault(0, 0));
        readView("Among ma = 1", fault(0, 0));
        readView("among ma = 1; among", fault(14, 4));
        readView("among ma = 1]", fault(12, 0));
        readView("among [ma = 1; like mb]", fault(13, 0));
        readView("among ma = 1 like mb", fault(13, 0));
        readView("like ma\t", fault(7, 0));
        readView("like ma\0", fault(7, 0));
        readView("like \u00e4", fault(5, 0));
        // a FAULT takes nothing of what stood before it
        BecauseOf y = new BecauseOf();
        due("view", Texts.view(y, "like ma; within 1000"), fault(16, 1));
        due("count(2)", y.count(2), 0);
        due("takes(0, -1)", y.takes(0, -1), -1);
        due("view", Texts.view(y, "within 9"), 0);
    }

    private static void rule() {
        BecauseOf x = new BecauseOf();
        for (int v = 0; v < 8; v++) {
            due("rule", Texts.rule(x, "ma=" + v), v);
        }
        Texts.put(x, "ma");
        due("a ninth rule", x.rule(), -1);
        due("count(4)", x.count(4), 2);
        due("count(3)", x.count(3), 8);
        due("as a view", x.view(), fault(0, 0));

        readRule("ma = 1", 0);
        readRule("1 = 0001", 0);
        readRule("ma+mb-mc+9999<=trait+office-stage+came+known", 0);
        readRule("ma=5and mb=1or mc=2", 0);
        readRule("not[ma=1]and[not mb=1]", 0);
        readRule("", fault(0, 0));
        readRule("ma", fault(2, 0));
        readRule("ma  ", fault(4, 0));
        readRule("ma =", fault(4, 0));
        readRule("ma = 12345", fault(5, 1));
        readRule("12345 = ma", fault(0, 1));
        readRule("ma = 1 ma", fault(7, 0));
        readRule("ma = 1 12345", fault(7, 0));
        readRule("ma = 1 or", fault(9, 0));
        readRule("ma = 1 and ", fault(11, 0));
        readRule("ma = 1 andmb = 1", fault(7, 0));
        readRule("and ma = 1", fault(0, 0));
        readRule("ma = 1 = 1", fault(7, 0));
        readRule("ma = -1", fault(5, 0));
        readRule("ma + = 1", fault(5, 0));
        readRule("ma + not = 1", fault(5, 0));
        readRule("ma + [mb] = 1", fault(5, 0));
        readRule("ma <> 1", fault(4, 0));
        readRule("ma =< 1", fault(4, 0));
        readRule("ma < = 1", fault(5, 0));
        readRule("ma == 1", fault(4, 0));
        readRule("ma ! 1", fault(3, 0));
        readRule("ma1 = 1", fault(0, 0));
        readRule("mg = 1", fault(0, 0));
        readRule("like = 1", fault(0, 0));
        readRule("MA = 1", fault(0, 0));
        readRule("notma = 1", fault(0, 0));
        readRule("not", fault(3, 0));
        readRule("[ma = 1", fault(7, 0));
        readRule("[ma = 1]]", fault(8, 0));
        readRule("ma = 1]", fault(6, 0));
        readRule("[]", fault(1, 0));
        readRule("[ma] = 1", fault(3, 0));
        readRule("[ma = 1] ma", fault(9, 0));
        readRule("[ma = 1] = 1", fault(9, 0));
        readRule("[ma = 1] [mb = 1]", fault(9, 0));
        readRule("(ma = 1)", fault(0, 0));
        readRule("[ma = 1)", fault(7, 0));

        String ten = "[not [not [not [not [not ma = 1]]]]]";
        readRule(ten, 0);
        readRule("[" + ten + "]", fault(22, 2));
        readRule("[".repeat(10) + "ma=1" + "]".repeat(10) + " and not ma=2", 0);
        readRule("[".repeat(11) + "ma=1" + "]".repeat(11), fault(10, 2));
        readRule("not ".repeat(10) + "ma=1 or " + "not ".repeat(10) + "mb=1", 0);
        readRule("not ".repeat(11) + "ma=1", fault(40, 2));
        readRule("not ".repeat(10) + "[ma=1]", fault(40, 2));
        readRule("[".repeat(10) + "[", fault(10, 2));
        readRule("[".repeat(10) + "not", fault(10, 2));
        readRule("[".repeat(10) + "not5", fault(10, 0));
        readRule("[".repeat(10), fault(10, 0));

        // 13 FACTS made of a SIGN have 26 VALUES and 13 SIGNS: one VALUE more fits
        String thirteen = "1=1" + " or 1=1".repeat(12);
        readRule(thirteen, 0);
        readRule(thirteen + "+2", 0);
        readRule(thirteen + "+2 and [not 3", fault(99, 3));
        readRule(thirteen + " or 5", fault(92, 0));
        readRule(thirteen + " or 5=5", fault(92, 3));
        readRule(thirteen + "+2+2", fault(90, 3));
        readRule(thirteen + "+2+12345", fault(90, 1));
        readRule(thirteen + "+2+x", fault(90, 0));
        readRule(thirteen + "+2+]", fault(90, 0));
        readRule("1" + "+1".repeat(37) + "=1", 0);
        readRule("1" + "+1".repeat(38) + "=1", fault(78, 3));
        readRule("1" + "+1".repeat(39) + "=1", fault(79, 3));
        readRule("1" + "+1".repeat(39) + "?1", fault(79, 0));
        readRule("1" + "+1".repeat(40) + "=1", fault(80, 3));
        // what fills the TAPE
        readRule("1=1" + " ".repeat(390), 0);
        due("rule of 400 bytes", Texts.rule(new BecauseOf(), " ".repeat(397) + "1=1"), 0);
        due("rule of 400 bytes", Texts.rule(new BecauseOf(), " ".repeat(396) + "1=1+"), fault(400, 0));
        due("rule of 400 bytes", Texts.rule(new BecauseOf(), "1".repeat(400)), fault(0, 1));
        due("rule of 400 bytes", Texts.rule(new BecauseOf(), "m".repeat(400)), fault(0, 0));
        due("rule of 400 bytes", Texts.rule(new BecauseOf(), "[".repeat(400)), fault(10, 2));
        // the 40 are counted anew by each text
        BecauseOf y = new BecauseOf();
        due("rule", Texts.rule(y, thirteen), 0);
        due("rule", Texts.rule(y, thirteen), 1);
        due("view", Texts.view(y, "within 5; among " + thirteen + "+1"), 0);
    }

    private static void says() {
        BecauseOf x = new BecauseOf();
        // TRAIT 1, OFFICE 5, STAGE 1, CAME good; the MARKS ma 3, mb 7, the others missing
        ask(x, 1, 5, 1, 1, 3, 7);
        ask(x, 0, 0, 0, -1);
        due("says(0, 0)", x.says(0, 0), -1);
        saysOf(x, 0, "ma = 3 and mb = 7 and trait = 1 and office = 5 and stage = 1 and came = 1 and known = 1", 1);
        due("says(0, 1)", x.says(0, 1), 0);
        saysOf(x, 1, "trait + office + stage + came + known = 0", 1);
        saysOf(x, 0, "ma - mb + 5 - 1 = 0", 1);
        saysOf(x, 0, "mb - ma - 3 = 1", 1);
        saysOf(x, 0, "ma - mb < 0", 1);
        saysOf(x, 0, "9999 - ma = 9996", 1);
        due("says(-1, 0)", x.says(-1, 0), -1);
        due("says(6, 0)", x.says(6, 0), -1);
        due("says(8, 0)", x.says(8, 0), -1);
        due("says(0, 2)", x.says(0, 2), -1);
        due("says(0, -1)", x.says(0, -1), -1);
        due("says(BIG, BIG)", x.says(BIG, BIG), -1);

        BecauseOf y = new BecauseOf();
        ask(y, 0, 0, 0, 0, 3);
        // a MARK that is missing: the FACT isn't true, so not of it is
        saysOf(y, 0, "mb = mb", 0);
        saysOf(y, 0, "not mb = mb", 1);
        saysOf(y, 0, "ma = 3 and [mb < 5 or mb >= 5]", 0);
        saysOf(y, 0, "mb = 1 or ma = 3", 1);
        saysOf(y, 0, "0 - mb + mb = 0 or mb > 0 - 9", 0);
        saysOf(y, 0, "came = 0 and known = 1", 1);

        // which binds closer
        BecauseOf z = new BecauseOf();
        ask(z, 0, 0, 0, 0, 3);
        saysOf(z, 0, "1 = 1 or 1 = 1 and 1 = 2", 1);
        saysOf(z, 0, "[1 = 1 or 1 = 1] and 1 = 2", 0);
        saysOf(z, 0, "not 1 = 1 and 1 = 2", 0);
        saysOf(z, 0, "not [1 = 1 and 1 = 2]", 1);
        saysOf(z, 0, "1 = 2 and 1 = 1 or 1 = 1", 1);
        saysOf(z, 0, "not not 1 = 1 or 1 = 2", 1);
        saysOf(z, 0, "not 1 = 2 or 1 = 1", 1);

        String[] signs = {"<", "<=", "=", ">=", ">"};
        int[][] met = {{1, 0, 0}, {1, 1, 0}, {0, 1, 0}, {0, 1, 1}, {0, 0, 1}};
        for (int s = 0; s < 5; s++) {
            BecauseOf w = new BecauseOf();
            ask(w, 0, 0, 0, 0, 4);
            for (int i = 0; i < 3; i++) {
                saysOf(w, 0, "ma" + signs[s] + (5 - i), met[s][i]);
            }
        }
    }

    // ---- 10 to 18: of a VIEW

    private static void takes() {
        BecauseOf x = new BecauseOf();
        int all = Texts.view(x, "within 5");
        int like = Texts.view(x, "like ma; like mb");
        int among = Texts.view(x, "among trait = 1; like ma");
        int near = Texts.view(x, "near ma 5");
        due("takes(all, NONE)", x.takes(all, -1), 0);
        due("takes(all, 0)", x.takes(all, 0), -1);
        ask(x, 0, 0, 0, 0);
        ask(x, 1, 0, 0, 0, 4);
        ask(x, 1, 0, 0, 0, 4, 0);
        ask(x, 0, 0, 0, 0, 0, 9);
        ask(x, 1, 0, 0, 0, -1, 9);
        due("takes(all, NONE)", x.takes(all, -1), 5);
        due("takes(all, 4)", x.takes(all, 4), 4);
        due("takes(like, NONE)", x.takes(like, -1), 2);
        due("takes(like, 0)", x.takes(like, 0), 2);
        due("takes(like, 1)", x.takes(like, 1), 3);
        due("takes(like, 2)", x.takes(like, 2), -1);
        due("takes(like, -2)", x.takes(like, -2), -1);
        due("takes(among, NONE)", x.takes(among, -1), 2);
        due("takes(among, 0)", x.takes(among, 0), 1);
        due("takes(among, 1)", x.takes(among, 1), 2);
        due("takes(near, NONE)", x.takes(near, -1), 5);
        due("takes(4, NONE)", x.takes(4, -1), -1);
        due("takes(-1, NONE)", x.takes(-1, -1), -1);
        due("takes(8, 0)", x.takes(8, 0), -1);
        due("takes(all, BIG)", x.takes(all, BIG), -1);
        // as the CASES are now
        x.mark(2, 0, -1);
        due("takes(like, NONE)", x.takes(like, -1), 1);
        due("takes(among, 1)", x.takes(among, 1), -1);
    }

    private static void table() {
        BecauseOf x = new BecauseOf();
        int v = Texts.view(x, "among office = 0");
        ask(x, 4, 0, 2);
        ask(x, 2, 0, 1);
        ask(x, 1, 1, 2);
        ask(x, 1, 1, 0);
        x.asks(1, 1, 2, -1);
        due("table(v, 0, 0)", x.table(v, 0, 0), 6);
        due("table(v, 0, 1)", x.table(v, 0, 1), 4);
        due("table(v, 1, 0)", x.table(v, 1, 0), 2);
        due("table(v, 1, 1)", x.table(v, 1, 1), 1);
        due("table(v, 2, 0)", x.table(v, 2, 0), -1);
        due("table(v, -1, 0)", x.table(v, -1, 0), -1);
        due("table(v, 0, 2)", x.table(v, 0, 2), -1);
        due("table(v, 0, -1)", x.table(v, 0, -1), -1);
        due("table(1, 0, 0)", x.table(1, 0, 0), -1);
    }

    private static void gap() {
        BecauseOf x = new BecauseOf();
        int v = Texts.view(x, "within 5");
        due("gap of nobody", x.gap(v, 0), 0);
        due("gap of nobody", x.gap(v, 1), 0);
        ask(x, 4, 0, 2);
        ask(x, 2, 0, 1);
        due("gap of one trait", x.gap(v, 0), 0);
        due("gap of one trait", x.gap(v, 1), 0);
        ask(x, 1, 1, 2);
        ask(x, 1, 1, 0);
        // 4/6 - 1/2
        due("gap(v, 0)", x.gap(v, 0), 1);
        due("gap(v, 1)", x.gap(v, 1), 6);
        ask(x, 2, 1, 2);
        // 4/6 - 3/4
        due("gap(v, 0)", x.gap(v, 0), -1);
        due("gap(v, 1)", x.gap(v, 1), 12);
        ask(x, 2, 1, 0);
        // 4/6 - 3/6
        due("gap(v, 0)", x.gap(v, 0), 1);
        due("gap(v, 1)", x.gap(v, 1), 6);
        ask(x, 3, 1, 2);
        // 4/6 - 6/9
        due("gap(v, 0)", x.gap(v, 0), 0);
        due("gap(v, 1)", x.gap(v, 1), 1);
        due("gap(v, 2)", x.gap(v, 2), -1);
        due("gap(v, -1)", x.gap(v, -1), -1);
        due("gap(1, 0)", x.gap(1, 0), -1);
    }

    private static void luck() {
        BecauseOf x = new BecauseOf();
        int v = Texts.view(x, "within 5");
        due("luck of nobody", x.luck(v, 0), 1);
        due("luck of nobody", x.luck(v, 1), 1);
        ask(x, 3, 0, 2);
        ask(x, 1, 0, 0);
        ask(x, 1, 1, 2);
        ask(x, 3, 1, 1);
        // 4 of 8; none of TRAIT 1: 1 way, one of them: 4 * 4
        due("luck(v, 0)", x.luck(v, 0), 17);
        due("luck(v, 1)", x.luck(v, 1), 70);
        due("luck(v, 2)", x.luck(v, 2), -1);
        due("luck(v, -1)", x.luck(v, -1), -1);
        due("luck(1, 0)", x.luck(1, 0), -1);
        ask(x, 26, 0, 2);
        ask(x, 25, 1, 1);
        due("luck of 59", x.luck(v, 1), 59132290782430712L);
        ask(x, 1, 1, 1);
        due("luck of 60", x.luck(v, 1), 118264581564861424L);
        // with one of TRAIT 1 at most: of 30 and 30, 1 + 30 * 30
        due("luck of 60", x.luck(v, 0), 901);
        ask(x, 1, 1, 1);
        due("luck of 61", x.luck(v, 0), -1);
        due("luck of 61", x.luck(v, 1), -1);
        BecauseOf y = new BecauseOf();
        Texts.view(y, "within 5");
        ask(y, 30, 1, 2);
        ask(y, 30, 0, 0);
        due("luck of all ways", y.luck(0, 0), 118264581564861424L);
    }

    /** Three GROUPS by ma: 5 (both), 2 (TRAIT 0 alone), 7 (both). */
    private static BecauseOf grouped() {
        BecauseOf x = new BecauseOf();
        Texts.view(x, "like ma");
        ask(x, 0, 0, 2, 1, 5);
        ask(x, 0, 0, 2, 1, 2);
        ask(x, 0, 0, 0, 1, 5);
        ask(x, 1, 0, 0, 1, 5);
        ask(x, 1, 0, 2, 1, 7);
        ask(x, 0, 0, 2, 1, 5);
        ask(x, 1, 0, 1, 1, 5);
        ask(x, 0, 0, 0, 1, 7);
        ask(x, 0, 0, 1, 1, -1);
        return x;
    }

    private static void group() {
        BecauseOf x = grouped();
        due("group(0, NONE, 0)", x.group(0, -1, 0), 3);
        int[][] want = {{3, 2, 2, 0, 1333}, {1, 1, 0, 0, -1}, {1, 0, 1, 1, 0}};
        for (int g = 0; g < 3; g++) {
            for (int what = 0; what < 5; what++) {
                due("group(0, " + g + ", " + what + ")", x.group(0, g, what), want[g][what]);
            }
        }
        due("group(0, 3, 0)", x.group(0, 3, 0), -1);
        due("group(0, -2, 0)", x.group(0, -2, 0), -1);
        due("group(0, 0, 5)", x.group(0, 0, 5), -1);
        due("group(0, 0, -1)", x.group(0, 0, -1), -1);
        due("group(1, NONE, 0)", x.group(1, -1, 0), -1);
        due("group(1, 0, 0)", x.group(1, 0, 0), -1);
        // without like all are one GROUP, and of nobody there is none
        int one = Texts.view(x, "near ma 5");
        int none = Texts.view(x, "among 1 = 2");
        int two = Texts.view(x, "like mb; like ma");
        due("group(one, NONE, 0)", x.group(one, -1, 0), 1);
        due("group(one, 0, 0)", x.group(one, 0, 0), 6);
        due("group(none, NONE, 0)", x.group(none, -1, 0), 0);
        due("group(none, 0, 0)", x.group(none, 0, 0), -1);
        // a MARK more divides them: 5 and 1, 1 and 5 are not the same
        x.mark(0, 1, 1);
        x.mark(3, 1, 2);
        x.mark(2, 1, 1);
        x.mark(1, 1, 5);
        due("group(two, NONE, 0)", x.group(two, -1, 0), 3);
        due("group(two, 0, 0)", x.group(two, 0, 0), 2);
        due("group(two, 1, 0)", x.group(two, 1, 0), 1);
        due("group(two, 2, 2)", x.group(two, 2, 2), 1);
        due("group(two, 0, 4)", x.group(two, 0, 4), -1);
    }

    private static void lacks() {
        BecauseOf x = grouped();
        // 1333 + 0 - 1000
        due("lacks(0)", x.lacks(0), 333);
        due("lacks(1)", x.lacks(1), -1000000);
        due("lacks(-1)", x.lacks(-1), -1000000);
        // LET of TRAIT 1 in a GROUP of its own don't count
        ask(x, 1, 0, 2, 1, 9);
        due("lacks(0)", x.lacks(0), 333);
        // each WOULD downwards by itself: 333 and 333, not 666
        BecauseOf y = new BecauseOf();
        Texts.view(y, "like ma");
        for (int m = 0; m < 2; m++) {
            ask(y, 0, 0, 2, 1, m);
            ask(y, 0, 0, 0, 1, m);
            ask(y, 0, 0, 0, 1, m);
            ask(y, 1, 0, 0, 1, m);
        }
        due("lacks(0)", y.lacks(0), 666);
        due("lacks of nobody", y.lacks(Texts.view(y, "among 1 = 2")), 0);
        ask(y, 1, 0, 2, 1, 0);
        due("lacks(0)", y.lacks(0), -1);
    }

    private static void pairs() {
        BecauseOf x = new BecauseOf();
        int v = Texts.view(x, "near ma 3; within 12");
        due("pairs of nobody", x.pairs(v, 0), 0);
        due("pairs of nobody", x.pairs(v, 1), 0);
        ask(x, 0, 0, 0, 0, 1);
        ask(x, 0, 0, 0, 0, 5);
        ask(x, 1, 0, 0, 0, 5);
        // 0-2 is 12, 1-2 is 0
        due("pairs(v, 0)", x.pairs(v, 0), 1);
        due("pairs(v, 1)", x.pairs(v, 1), 0);
        ask(x, 1, 0, 0, 0, 9);
        // 0-3 is too far: two are put together only as 0-2, 1-3
        due("pairs(v, 0)", x.pairs(v, 0), 2);
        due("pairs(v, 1)", x.pairs(v, 1), 24);
        x.mark(3, 0, -1);
        due("pairs(v, 0)", x.pairs(v, 0), 1);
        due("pairs(v, 1)", x.pairs(v, 1), 0);
        due("pairs(v, 2)", x.pairs(v, 2), -1);
        due("pairs(v, -1)", x.pairs(v, -1), -1);
        due("pairs(1, 0)", x.pairs(1, 0), -1);
        int like = Texts.view(x, "like mb; near ma 3; near mc 10");
        x.mark(0, 1, 4);
        x.mark(2, 1, 4);
        x.mark(1, 1, 5);
        due("pairs(like, 0)", x.pairs(like, 0), 0);
        x.mark(0, 2, 9);
        x.mark(2, 2, 0);
        due("pairs(like, 0)", x.pairs(like, 0), 1);
        due("pairs(like, 1)", x.pairs(like, 1), 102);
        x.mark(2, 1, 3);
        due("pairs(like, 0)", x.pairs(like, 0), 0);

        // without within: 999 at most
        BecauseOf y = new BecauseOf();
        int far = Texts.view(y, "near ma 99; near mb 12");
        ask(y, 0, 0, 0, 0, 0, 0);
        ask(y, 1, 0, 0, 0, 9, 9);
        due("pairs at 999", y.pairs(far, 1), 999);
        due("pairs at 999", y.pairs(far, 0), 1);
        int farther = Texts.view(y, "near ma 99; near mb 12; near mc 1");
        y.mark(0, 2, 0);
        y.mark(1, 2, 1);
        due("pairs at 1000", y.pairs(farther, 0), 0);
        int closer = Texts.view(y, "near mc 1; within 0");
        due("pairs at 1, within 0", y.pairs(closer, 0), 0);
        y.mark(1, 2, 0);
        due("pairs at 0, within 0", y.pairs(closer, 0), 1);

        // the first ten of each alone
        BecauseOf z = new BecauseOf();
        int ten = Texts.view(z, "near ma 1");
        for (int i = 0; i < 10; i++) {
            ask(z, 0, 0, 0, 0, 9);
            ask(z, 1, 0, 0, 0, i);
        }
        ask(z, 1, 0, 0, 0, 9);
        ask(z, 0, 0, 0, 0, 0);
        due("pairs of ten", z.pairs(ten, 0), 10);
        due("pairs of ten", z.pairs(ten, 1), 45);
        // without near all distances are 0
        int all = Texts.view(z, "within 0");
        due("pairs(all, 0)", z.pairs(all, 0), 10);
        due("pairs(all, 1)", z.pairs(all, 1), 0);
    }

    private static void next() {
        BecauseOf x = new BecauseOf();
        int v = Texts.view(x, "like ma; near mc 3");
        due("next of nobody", x.next(v), -2);
        due("next(1)", x.next(1), -1);
        due("next(-1)", x.next(-1), -1);
        ask(x, 0, 0, 2, 0, 1, 1, 1, 1);
        ask(x, 0, 0, 0, 0, 1, 2, 1, 1);
        ask(x, 1, 0, 0, 0, 1, 1, 1, 2);
        ask(x, 1, 0, 0, 0, 1, 1, 1, 2);
        // with mb 2000, with mc 1000 (it is named in near alone), with md no GROUP of both
        due("next(v)", x.next(v), 2);
        // the other way: with mb 0
        x.mark(2, 1, 2);
        x.mark(3, 1, 2);
        due("next(v)", x.next(v), 1);
        // the same: the least MARK
        x.mark(0, 4, 3);
        x.mark(2, 4, 3);
        x.mark(1, 4, 4);
        x.mark(3, 4, 4);
        x.mark(2, 1, -1);
        x.mark(3, 1, -1);
        due("next(v)", x.next(v), 2);
        // below 0 is far from 0, too: with mc -1000, with md 0
        BecauseOf y = new BecauseOf();
        int w = Texts.view(y, "like ma; like mb");
        ask(y, 0, 0, 0, 0, 1, 1, 1, 1);
        ask(y, 1, 0, 2, 0, 1, 1, 1, 2);
        ask(y, 0, 0, 2, 0, 1, 1, -1, 2);
        due("next(w)", y.next(w), 3);
        int any = Texts.view(y, "within 5");
        // ma, mb and mc -1000 or -500, md 0: and with ma the same as with mb, ma is the first
        due("next(any)", y.next(any), 3);
        y.mark(1, 3, 9);
        y.mark(2, 2, 1);
        due("next(any)", y.next(any), 0);
        int six = Texts.view(y, "like ma; like mb; like mc; like md; like me; like mf");
        due("next of all six", y.next(six), -2);
    }

    private static void sway() {
        BecauseOf x = grouped();
        // LACKS 333 = 1333 + 0 - 1000; without 0: 1000 - 1000
        due("sway(0, 0)", x.sway(0, 0), 0);
        due("sway(0, 1)", x.sway(0, 1), 0);
        due("sway(0, 2)", x.sway(0, 2), -1);
        due("sway(0, -1)", x.sway(0, -1), -1);
        due("sway(1, 0)", x.sway(1, 0), -1);
        due("sway(1, 1)", x.sway(1, 1), -1);
        int none = Texts.view(x, "among 1 = 2");
        due("sway of nobody", x.sway(none, 0), -1);
        due("sway of nobody", x.sway(none, 1), -1000000);
        // without 4 or 7 GROUP 7 has no more both: 1333 is farther than 333
        x.mark(0, 0, -1);
        x.mark(5, 0, -1);
        // now 0 - 1000: without 4 and 7 it is 0, 4 is the least
        due("sway(0, 0)", x.sway(0, 0), 4);
        due("sway(0, 1)", x.sway(0, 1), 0);
        // one who must stay below 0
        BecauseOf y = new BecauseOf();
        Texts.view(y, "within 5");
        ask(y, 2, 0, 0);
        ask(y, 3, 1, 2);
        due("sway(0, 0)", y.sway(0, 0), 2);
        due("sway(0, 1)", y.sway(0, 1), -2000);
    }

    // ---- 19 to 23: LETTERS

    private static void letter() {
        BecauseOf x = new BecauseOf();
        due("letter(8, ..)", x.letter(8, true, true), -1);
        due("letter(-1, ..)", x.letter(-1, true, true), -1);
        due("letter(BIG, ..)", x.letter(BIG, true, true), -1);
        for (int i = 0; i < 200; i++) {
            due("letter", x.letter(i % 8, i % 3 == 0, i % 2 == 0), i);
        }
        due("letter, the 201st", x.letter(0, true, true), -1);
        due("count(1)", x.count(1), 200);
        due("turned(-1, 0)", x.turned(-1, 0), 200);
    }

    private static void turned() {
        BecauseOf x = new BecauseOf();
        x.letter(3, true, true);
        x.letter(3, false, false);
        x.letter(3, true, false);
        x.letter(3, true, false);
        x.letter(3, false, true);
        x.letter(7, false, true);
        int[][] want = {{-1, 6, 4, 2}, {3, 5, 3, 2}, {7, 1, 1, 0}, {0, 0, 0, 0}};
        for (int[] w : want) {
            for (int what = 0; what < 3; what++) {
                due("turned(" + w[0] + ", " + what + ")", x.turned(w[0], what), w[what + 1]);
            }
        }
        due("turned(8, 0)", x.turned(8, 0), -1);
        due("turned(-2, 0)", x.turned(-2, 0), -1);
        due("turned(3, 3)", x.turned(3, 3), -1);
        due("turned(3, -1)", x.turned(3, -1), -1);
    }

    /** So many LETTERS to an OFFICE answered to TRAIT 0 alone, then so many to TRAIT 1 alone. */
    private static void send(BecauseOf x, int office, int heads, int tails) {
        for (int i = 0; i < heads + tails; i++) {
            x.letter(office, i < heads, i >= heads);
        }
    }

    private static void coin() {
        BecauseOf x = new BecauseOf();
        due("coin(-1, 0)", x.coin(-1, 0), 1);
        due("coin(-1, 1)", x.coin(-1, 1), 1);
        send(x, 2, 3, 1);
        send(x, 4, 0, 2);
        x.letter(2, true, true);
        due("coin(2, 0)", x.coin(2, 0), 5);
        due("coin(2, 1)", x.coin(2, 1), 16);
        due("coin(4, 0)", x.coin(4, 0), 4);
        due("coin(-1, 0)", x.coin(-1, 0), 42);
        due("coin(-1, 1)", x.coin(-1, 1), 64);
        due("coin(2, 2)", x.coin(2, 2), -1);
        due("coin(2, -1)", x.coin(2, -1), -1);
        due("coin(8, 0)", x.coin(8, 0), -1);
        due("coin(-2, 0)", x.coin(-2, 0), -1);
        send(x, 5, 30, 24);
        due("coin of 60", x.coin(-1, 1), 1L << 60);
        // 33 heads of 60 or more
        due("coin of 60", x.coin(-1, 0), 299158920932589141L);
        x.letter(0, false, true);
        due("coin of 61", x.coin(-1, 1), -1);
        due("coin of 61", x.coin(-1, 0), -1);
        due("coin(5, 1)", x.coin(5, 1), 1L << 54);
    }

    private static void hidden() {
        BecauseOf x = new BecauseOf();
        due("hidden(-1, 20, 0)", x.hidden(-1, 20, 0), 1);
        due("hidden(-1, 20, 1)", x.hidden(-1, 20, 1), 1);
        send(x, 2, 3, 1);
        // 4 * 8 + 16 by 81; by 1 as COIN
        due("hidden(2, 2, 0)", x.hidden(2, 2, 0), 48);
        due("hidden(2, 2, 1)", x.hidden(2, 2, 1), 81);
        due("hidden(2, 1, 0)", x.hidden(2, 1, 0), 5);
        due("hidden(2, 1, 1)", x.hidden(2, 1, 1), 16);
        due("hidden(2, 0, 1)", x.hidden(2, 0, 1), -1);
        due("hidden(2, 21, 1)", x.hidden(2, 21, 1), -1);
        due("hidden(2, 2, 2)", x.hidden(2, 2, 2), -1);
        due("hidden(2, 2, -1)", x.hidden(2, 2, -1), -1);
        due("hidden(8, 2, 0)", x.hidden(8, 2, 0), -1);
        due("hidden(-2, 2, 0)", x.hidden(-2, 2, 0), -1);
        send(x, 3, 0, 10);
        due("hidden of 14", x.hidden(-1, 20, 1), 3243919932521508681L);
        // all but none, one and two heads: 1 + 14 * 20 + 91 * 400
        due("hidden of 14", x.hidden(-1, 20, 0), 3243919932521508681L - 36681);
        x.letter(0, true, false);
        due("hidden of 15", x.hidden(-1, 20, 0), -1);
        due("hidden(3, 20, 0)", x.hidden(3, 20, 0), 16679880978201L);
    }

    private static void edge() {
        BecauseOf x = new BecauseOf();
        due("edge(-1)", x.edge(-1), 1);
        send(x, 1, 4, 0);
        // 1/16 is a twentieth or more, 1/32 is not, 32/243 is
        due("edge(1)", x.edge(1), 1);
        x.letter(1, true, false);
        due("edge(1)", x.edge(1), 2);
        send(x, 2, 14, 0);
        // 4^14 by 5^14 is below a twentieth, 5^14 by 6^14 is not
        due("edge(2)", x.edge(2), 5);
        send(x, 3, 1, 13);
        due("edge(3)", x.edge(3), 1);
        due("edge(8)", x.edge(8), -1);
        due("edge(-2)", x.edge(-2), -1);
        due("edge(-1)", x.edge(-1), -1);
        x.letter(3, false, true);
        due("edge of 15", x.edge(3), -1);
    }

    // ---- 24 and 25: those who never asked

    private static void ends() {
        BecauseOf x = new BecauseOf();
        int v = Texts.view(x, "within 5");
        due("ends of nobody", x.ends(v, 0, 0, 1), 0);
        due("ends of nobody", x.ends(v, 0, 5, 0), 0);
        // the least: 0/1 - 1/1, the greatest: 1/1 - 0/1
        int[] new1 = {-1, 1, 1, 1};
        for (int what = 0; what < 4; what++) {
            due("ends of one new each", x.ends(v, 1, 1, what), new1[what]);
        }
        ask(x, 4, 0, 2);
        ask(x, 2, 0, 1);
        ask(x, 1, 1, 2);
        ask(x, 1, 1, 0);
        // without more: 4/6 - 1/2; with: 4/8 - 2/3, 6/8 - 1/3
        int[] none = {1, 6, 1, 6};
        int[] some = {-1, 6, 5, 12};
        for (int what = 0; what < 4; what++) {
            due("ends(v, 0, 0, " + what + ")", x.ends(v, 0, 0, what), none[what]);
            due("ends(v, 2, 1, " + what + ")", x.ends(v, 2, 1, what), some[what]);
        }
        // 4/1005 - 1000/1001, 1003/1005 - 1/1001
        due("ends(v, 999, 999, 0)", x.ends(v, 999, 999, 0), -1000996);
        due("ends(v, 999, 999, 1)", x.ends(v, 999, 999, 1), 1006005);
        due("ends(v, 999, 999, 2)", x.ends(v, 999, 999, 2), 1002998);
        due("ends(v, 999, 999, 3)", x.ends(v, 999, 999, 3), 1006005);
        due("ends(v, 1000, 0, 0)", x.ends(v, 1000, 0, 0), -2000000);
        due("ends(v, 0, 1000, 0)", x.ends(v, 0, 1000, 0), -2000000);
        due("ends(v, -1, 0, 0)", x.ends(v, -1, 0, 0), -2000000);
        due("ends(v, 0, -1, 0)", x.ends(v, 0, -1, 0), -2000000);
        due("ends(v, 0, 0, 4)", x.ends(v, 0, 0, 4), -2000000);
        due("ends(v, 0, 0, -1)", x.ends(v, 0, 0, -1), -2000000);
        due("ends(1, 0, 0, 0)", x.ends(1, 0, 0, 0), -2000000);
    }

    private static void claim() {
        BecauseOf x = new BecauseOf();
        int v = Texts.view(x, "within 5");
        due("claim of nobody", x.claim(v, 0, 0, 0), -1);
        due("claim of nobody", x.claim(v, 1, 0, 0), -1);
        due("claim of one new each", x.claim(v, 1, 1, 0), 1);
        ask(x, 1, 0, 2);
        ask(x, 1, 0, 1);
        ask(x, 1, 1, 2);
        ask(x, 3, 1, 0);
        // the GAP is 1/4
        due("claim of 250", x.claim(v, 0, 0, 250), 2);
        due("claim of 251", x.claim(v, 0, 0, 251), 0);
        due("claim of 249", x.claim(v, 0, 0, 249), 2);
        // from 1/3 - 1/4 = 83.3 thousandths to 2/3 - 1/4 = 416.6
        due("claim of 83", x.claim(v, 1, 0, 83), 2);
        due("claim of 84", x.claim(v, 1, 0, 84), 1);
        due("claim of 416", x.claim(v, 1, 0, 416), 1);
        due("claim of 417", x.claim(v, 1, 0, 417), 0);
        // from 1/2 - 2/5 to 1/2 - 1/5: 100 to 300
        due("claim of 100", x.claim(v, 0, 1, 100), 2);
        due("claim of 101", x.claim(v, 0, 1, 101), 1);
        due("claim of 300", x.claim(v, 0, 1, 300), 1);
        due("claim of 301", x.claim(v, 0, 1, 301), 0);
        due("claim of -1000", x.claim(v, 999, 999, -1000), 2);
        due("claim of 1000", x.claim(v, 999, 999, 1000), 0);
        due("claim of 1001", x.claim(v, 0, 0, 1001), -1);
        due("claim of -1001", x.claim(v, 0, 0, -1001), -1);
        due("claim with 1000", x.claim(v, 1000, 0, 0), -1);
        due("claim with -1", x.claim(v, 0, -1, 0), -1);
        due("claim of no view", x.claim(1, 0, 0, 0), -1);
    }

    // ---- 26 to 32: sights, ways, measures

    private static void sight() {
        BecauseOf x = new BecauseOf();
        int v = Texts.view(x, "among office = 0");
        ask(x, 3, 0, 2);
        ask(x, 2, 0, 1);
        ask(x, 4, 0, 0);
        ask(x, 1, 1, 2);
        ask(x, 1, 1, 0);
        x.asks(0, 1, 2, 0);
        int[][][] want = {{{9, 5}, {2, 1}}, {{5, 3}, {1, 1}}};
        for (int s = 0; s < 2; s++) {
            for (int trait = 0; trait < 2; trait++) {
                for (int what = 0; what < 2; what++) {
                    due("sight(v, " + s + ", " + trait + ", " + what + ")", x.sight(v, s, trait, what), want[s][trait][what]);
                }
            }
        }
        due("sight(v, 2, 0, 0)", x.sight(v, 2, 0, 0), -1);
        due("sight(v, -1, 0, 0)", x.sight(v, -1, 0, 0), -1);
        due("sight(v, 0, 2, 0)", x.sight(v, 0, 2, 0), -1);
        due("sight(v, 0, -1, 0)", x.sight(v, 0, -1, 0), -1);
        due("sight(v, 0, 0, 2)", x.sight(v, 0, 0, 2), -1);
        due("sight(v, 0, 0, -1)", x.sight(v, 0, 0, -1), -1);
        due("sight(1, 0, 0, 0)", x.sight(1, 0, 0, 0), -1);
    }

    private static void evens(BecauseOf x, int first, int second, int all, int each) {
        int[] want = {first, second, all, each};
        for (int what = 0; what < 4; what++) {
            due("even(0, " + what + ")", x.even(0, what), want[what]);
        }
    }

    private static void even() {
        BecauseOf x = new BecauseOf();
        Texts.view(x, "within 5");
        evens(x, 1, 1, 1, 1);
        ask(x, 2, 0, 2);
        ask(x, 2, 0, 0);
        evens(x, 1, 1, 1, 1);
        ask(x, 1, 1, 2);
        evens(x, 0, 1, 0, 0);
        ask(x, 1, 1, 0);
        evens(x, 1, 1, 1, 1);
        // neither sight is, and yet each OFFICE: it is by LET of all
        x = new BecauseOf();
        Texts.view(x, "within 5");
        ask(x, 2, 0, 2);
        ask(x, 2, 0, 0);
        ask(x, 1, 1, 2);
        ask(x, 1, 1, 1);
        // 2/4 and 2/2, 2/2 and 1/2, 2/4 and 1/2
        evens(x, 0, 0, 1, 1);
        // none of TRAIT 1 comes to the second sight
        x = new BecauseOf();
        Texts.view(x, "within 5");
        ask(x, 1, 0, 2);
        ask(x, 1, 1, 0);
        evens(x, 0, 1, 0, 0);
        // even each and not together: OFFICE 0 lets half, OFFICE 1 all, OFFICE 2 has TRAIT 0 alone
        x = new BecauseOf();
        Texts.view(x, "among not office = 7");
        x.asks(0, 0, 2, 0);
        x.asks(0, 0, 0, 0);
        x.asks(1, 0, 2, 0);
        x.asks(1, 0, 0, 0);
        x.asks(0, 1, 2, 0);
        x.asks(1, 1, 2, 0);
        x.asks(0, 2, 2, 0);
        x.asks(0, 7, 2, 0);
        x.asks(1, 7, 0, 0);
        evens(x, 0, 1, 0, 1);
        // together and not each
        x = new BecauseOf();
        Texts.view(x, "within 5");
        x.asks(0, 6, 2, 0);
        x.asks(1, 6, 0, 0);
        x.asks(0, 7, 0, 0);
        x.asks(1, 7, 2, 0);
        evens(x, 1, 1, 1, 0);
        due("even(0, 4)", x.even(0, 4), -1);
        due("even(0, -1)", x.even(0, -1), -1);
        due("even(1, 0)", x.even(1, 0), -1);
    }

    private static void way() {
        BecauseOf x = new BecauseOf();
        int v = Texts.view(x, "within 5");
        due("way of nobody", x.way(v, 0), 0);
        ask(x, 0, 0, 2, 0, 0);
        ask(x, 0, 0, 0, 0, 9);
        ask(x, 0, 0, 0, 0, 9);
        due("way of one trait", x.way(v, 0), 0);
        ask(x, 1, 0, 2, 0, 0);
        ask(x, 1, 0, 0, 0, 0);
        ask(x, 1, 0, 2, 0, 9);
        // who has it not does not count
        ask(x, 0, 0, 0, 0);
        ask(x, 1, 0, 2, 0, -1, 4);
        // (333333 - 666666) * 1 / 2 towards 0 + (666666 - 333333) * 1 / 1
        due("way(v, 0)", x.way(v, 0), -166666 + 333333);
        due("way(v, 1)", x.way(v, 1), 0);
        // values of TRAIT 0 alone don't count
        ask(x, 0, 0, 0, 0, 5);
        // (250000 - 666666) / 2 + (500000 - 333333)
        due("way(v, 0)", x.way(v, 0), -208333 + 166667);
        due("way(v, 6)", x.way(v, 6), -10000000);
        due("way(v, -1)", x.way(v, -1), -10000000);
        due("way(1, 0)", x.way(1, 0), -10000000);
        BecauseOf y = new BecauseOf();
        Texts.view(y, "within 5");
        ask(y, 0, 0, 0, 0, -1, -1, -1, -1, -1, 3);
        ask(y, 1, 0, 2, 0, -1, -1, -1, -1, -1, 4);
        due("way(0, 5)", y.way(0, 5), -1000000);
    }

    /** Of TRAIT 0: LET 2 good, 1 bad, 1 not known; not 1 good. Of TRAIT 1: LET 1 bad; not 1 good, 2 bad. */
    private static BecauseOf measured() {
        BecauseOf x = new BecauseOf();
        Texts.view(x, "within 5");
        int[][] all = {{0, 2, 1}, {0, 2, 1}, {0, 2, 0}, {0, 2, -1}, {0, 1, 1}, {1, 2, 0}, {1, 0, 1}, {1, 1, 0}, {1, 0, 0}};
        for (int[] a : all) {
            x.asks(a[0], 0, a[1], a[2]);
        }
        return x;
    }

    private static void split() {
        BecauseOf x = measured();
        // 4/5 - 1/4, 2/3 - 0/1, 1/1 - 1/3, 2/3 - 0/1
        int[][] want = {{11, 20}, {2, 3}, {2, 3}, {2, 3}};
        for (int m = 0; m < 4; m++) {
            due("split(0, " + m + ", 0)", x.split(0, m, 0), want[m][0]);
            due("split(0, " + m + ", 1)", x.split(0, m, 1), want[m][1]);
        }
        due("split(0, 0, 2)", x.split(0, 0, 2), -1);
        due("split(0, 0, -1)", x.split(0, 0, -1), -1);
        due("split(0, 4, 0)", x.split(0, 4, 0), -1);
        due("split(0, -1, 0)", x.split(0, -1, 0), -1);
        due("split(1, 0, 0)", x.split(1, 0, 0), -1);
        // LET and good of TRAIT 1
        x.asks(1, 0, 2, 1);
        due("split(0, 3, 0)", x.split(0, 3, 0), 1);
        due("split(0, 3, 1)", x.split(0, 3, 1), 6);
        due("split(0, 1, 0)", x.split(0, 1, 0), 1);
        due("split(0, 1, 1)", x.split(0, 1, 1), 6);
        // nobody of TRAIT 1 came good, or bad, or is LET and known
        BecauseOf y = new BecauseOf();
        Texts.view(y, "within 5");
        y.asks(0, 0, 2, 1);
        y.asks(0, 0, 2, 0);
        y.asks(1, 0, 2, -1);
        for (int m = 1; m < 4; m++) {
            due("split(0, " + m + ", 0)", y.split(0, m, 0), 0);
            due("split(0, " + m + ", 1)", y.split(0, m, 1), 0);
        }
        due("split(0, 0, 1)", y.split(0, 0, 1), 1);
    }

    private static void holds() {
        BecauseOf x = measured();
        due("holds(0, 0, 550)", x.holds(0, 0, 550), 1);
        due("holds(0, 0, 549)", x.holds(0, 0, 549), 0);
        due("holds(0, 1, 666)", x.holds(0, 1, 666), 0);
        due("holds(0, 1, 667)", x.holds(0, 1, 667), 1);
        due("holds(0, 3, 1000)", x.holds(0, 3, 1000), 1);
        due("holds(0, 3, 1001)", x.holds(0, 3, 1001), -1);
        due("holds(0, 3, -1)", x.holds(0, 3, -1), -1);
        due("holds(0, 4, 0)", x.holds(0, 4, 0), -1);
        due("holds(0, -1, 0)", x.holds(0, -1, 0), -1);
        due("holds(1, 0, 0)", x.holds(1, 0, 0), -1);
        // without sign, and without a SPLIT
        BecauseOf y = new BecauseOf();
        Texts.view(y, "within 5");
        ask(y, 1, 0, 0);
        due("holds of one trait", y.holds(0, 0, 1000), 0);
        ask(y, 1, 1, 2);
        ask(y, 1, 1, 1);
        due("holds(0, 0, 500)", y.holds(0, 0, 500), 1);
        due("holds(0, 0, 499)", y.holds(0, 0, 499), 0);
        ask(y, 1, 0, 2);
        due("holds(0, 0, 0)", y.holds(0, 0, 0), 1);
    }

    private static void nearest() {
        BecauseOf x = new BecauseOf();
        int v = Texts.view(x, "within 5");
        for (int what = 0; what < 3; what++) {
            due("nearest of nobody", x.nearest(v, 0, 0, 1000, what), -2);
        }
        // good from 5 on of TRAIT 0, from 2 on of TRAIT 1
        ask(x, 0, 0, 0, 1, 5);
        ask(x, 0, 0, 0, 0, 4);
        ask(x, 0, 0, 0, 0, 1);
        ask(x, 0, 0, 0, 0, 0);
        ask(x, 1, 0, 2, 1, 2);
        ask(x, 1, 0, 2, 1, 9);
        ask(x, 1, 0, 2, 0, 1);
        ask(x, 1, 0, 2, 0, 0);
        // these don't count: not known, or without the MARK
        ask(x, 0, 0, 2, -1, 9);
        ask(x, 1, 0, 2, 1, -1, 9);
        int[] free = {5, 2, 8};
        // as many LET of each: 2 of 4 each, or 1 of 4
        int[] even = {2, 2, 7};
        // LET of the bad the same, and of those that came good
        for (int what = 0; what < 3; what++) {
            due("nearest within 1000", x.nearest(v, 0, 0, 1000, what), free[what]);
            due("nearest within 250", x.nearest(v, 0, 0, 250, what), free[what]);
            due("nearest within 0", x.nearest(v, 0, 0, 0, what), even[what]);
            due("nearest by 1", x.nearest(v, 0, 1, 0, what), free[what]);
            due("nearest by 2", x.nearest(v, 0, 2, 0, what), free[what]);
            due("nearest by 3", x.nearest(v, 0, 3, 0, what), free[what]);
        }
        due("nearest(v, 1, 0, 1000, 0)", x.nearest(v, 1, 0, 1000, 0), -2);
        due("nearest(v, 6, ..)", x.nearest(v, 6, 0, 0, 0), -1);
        due("nearest(v, -1, ..)", x.nearest(v, -1, 0, 0, 0), -1);
        due("nearest(v, 0, 4, ..)", x.nearest(v, 0, 4, 0, 0), -1);
        due("nearest(v, 0, -1, ..)", x.nearest(v, 0, -1, 0, 0), -1);
        due("nearest(v, 0, 0, 1001, 0)", x.nearest(v, 0, 0, 1001, 0), -1);
        due("nearest(v, 0, 0, -1, 0)", x.nearest(v, 0, 0, -1, 0), -1);
        due("nearest(v, 0, 0, 0, 3)", x.nearest(v, 0, 0, 0, 3), -1);
        due("nearest(v, 0, 0, 0, -1)", x.nearest(v, 0, 0, 0, -1), -1);
        due("nearest(1, 0, 0, 0, 0)", x.nearest(1, 0, 0, 0, 0), -1);
        // bars up to 10: nobody at all LET, where 9 came bad
        BecauseOf y = new BecauseOf();
        Texts.view(y, "within 5");
        ask(y, 0, 0, 0, 0, 9);
        ask(y, 1, 0, 0, 0, 9);
        int[] nobody = {10, 10, 2};
        for (int what = 0; what < 3; what++) {
            due("nearest to nobody", y.nearest(0, 0, 0, 0, what), nobody[what]);
            // none LET and known: no SPLIT
            due("nearest by 1", y.nearest(0, 0, 1, 1000, what), -2);
        }
        due("nearest by 3", y.nearest(0, 0, 3, 1000, 2), 0);
    }

    private static void clash() {
        BecauseOf x = new BecauseOf();
        int v = Texts.view(x, "within 5");
        due("clash of nobody", x.clash(v, 0, 0, 1, 1000), 0);
        ask(x, 0, 0, 0, 1, 5);
        ask(x, 0, 0, 0, 0, 0);
        ask(x, 1, 0, 0, 1, 5);
        // LET of all: at bar 0 both of TRAIT 0 and the one of TRAIT 1; above 5 none
        // measure 0 holds for 0 with 0 to 5 (all of both) and 6 to 10 with 6 to 10 (none): 6 + 25
        // measure 1 for these, too, and for 1 to 5 with 0 to 5
        due("clash(v, 0, 0, 1, 0)", x.clash(v, 0, 0, 1, 0), 31);
        due("clash(v, 0, 1, 0, 0)", x.clash(v, 0, 1, 0, 0), 31);
        // measure 2: nobody of TRAIT 1 came bad
        due("clash(v, 0, 0, 2, 1000)", x.clash(v, 0, 0, 2, 1000), 0);
        // measure 3: someone is LET of both: 1 to 5 with 0 to 5; and 0 with 0 to 5 at a half
        due("clash(v, 0, 1, 3, 0)", x.clash(v, 0, 1, 3, 0), 30);
        due("clash(v, 0, 3, 0, 0)", x.clash(v, 0, 3, 0, 0), 0);
        due("clash(v, 0, 3, 0, 499)", x.clash(v, 0, 3, 0, 499), 0);
        due("clash(v, 0, 3, 0, 500)", x.clash(v, 0, 3, 0, 500), 36);
        due("clash(v, 0, 0, 1, 1000)", x.clash(v, 0, 0, 1, 1000), 121);
        due("clash(v, 1, 0, 1, 1000)", x.clash(v, 1, 0, 1, 1000), 0);
        due("clash(v, 0, 1, 1, 0)", x.clash(v, 0, 1, 1, 0), -1);
        due("clash(v, 0, 4, 1, 0)", x.clash(v, 0, 4, 1, 0), -1);
        due("clash(v, 0, 0, -1, 0)", x.clash(v, 0, 0, -1, 0), -1);
        due("clash(v, 0, 0, 4, 0)", x.clash(v, 0, 0, 4, 0), -1);
        due("clash(v, 6, 0, 1, 0)", x.clash(v, 6, 0, 1, 0), -1);
        due("clash(v, -1, 0, 1, 0)", x.clash(v, -1, 0, 1, 0), -1);
        due("clash(v, 0, 0, 1, 1001)", x.clash(v, 0, 0, 1, 1001), -1);
        due("clash(v, 0, 0, 1, -1)", x.clash(v, 0, 0, 1, -1), -1);
        due("clash(1, 0, 0, 1, 0)", x.clash(1, 0, 0, 1, 0), -1);
    }

    // ---- 33 to 36: short rules, one's own

    private static void few() {
        BecauseOf x = new BecauseOf();
        int v = Texts.view(x, "within 5");
        due("few of nobody", x.few(v, 0), 0);
        ask(x, 0, 0, 2, 0, 3, 8);
        ask(x, 0, 0, 2, 0, 9, 0);
        due("few of all let", x.few(v, 0), 0);
        ask(x, 0, 0, 1, 0, 2, 9);
        // ma at least 3
        due("few(v, 0)", x.few(v, 0), 1);
        due("few(v, 1)", x.few(v, 1), 0);
        ask(x, 1, 0, 0, 0, 4, 8);
        // and TRAIT is 0
        due("few(v, 0)", x.few(v, 0), 2);
        due("few(v, 1)", x.few(v, 1), 1);
        due("few(v, 2)", x.few(v, 2), 0);
        // no two tell this one too; ma at least 6 is WRONG in the first alone
        ask(x, 0, 0, 0, 0, 5, 5);
        due("few(v, 0)", x.few(v, 0), -2);
        due("few(v, 1)", x.few(v, 1), 1);
        due("few(v, 2)", x.few(v, 2), 1);
        due("few(v, 3)", x.few(v, 3), 0);
        due("few(v, 200)", x.few(v, 200), 0);
        due("few(v, 201)", x.few(v, 201), -1);
        due("few(v, -1)", x.few(v, -1), -1);
        due("few(1, 0)", x.few(1, 0), -1);
        // a MARK that is missing is neither at least nor at most
        BecauseOf y = new BecauseOf();
        Texts.view(y, "within 5");
        ask(y, 0, 0, 0, 0);
        ask(y, 0, 0, 2, 0, 0);
        due("few(0, 0)", y.few(0, 0), 1);
        ask(y, 0, 0, 2, 0, 9);
        due("few(0, 0)", y.few(0, 0), -2);
    }

    private static void best() {
        BecauseOf x = new BecauseOf();
        int v = Texts.view(x, "within 5");
        for (int many = 0; many < 3; many++) {
            due("best of nobody", x.best(v, many, 0), 0);
            due("with of nobody", x.best(v, many, 1), many == 0 ? 0 : 1);
        }
        ask(x, 0, 0, 2, 0);
        ask(x, 1, 0, 0, 0);
        ask(x, 1, 0, 1, 0);
        // no MARKS: TRAIT is 0 alone tells it; any two parts are true of nobody
        int[][] want = {{2, 0}, {0, 2}, {1, 1}};
        for (int many = 0; many < 3; many++) {
            due("best(v, " + many + ", 0)", x.best(v, many, 0), want[many][0]);
            due("best(v, " + many + ", 1)", x.best(v, many, 1), want[many][1]);
        }
        // now a MARK does as well
        x.mark(0, 5, 9);
        x.mark(1, 5, 8);
        x.mark(2, 5, 0);
        int[][] marked = {{2, 0}, {0, 1}, {0, 1}};
        for (int many = 0; many < 3; many++) {
            due("best(v, " + many + ", 0)", x.best(v, many, 0), marked[many][0]);
            due("best(v, " + many + ", 1)", x.best(v, many, 1), marked[many][1]);
        }
        // and now it must be the MARK
        x.asks(0, 0, 0, 0);
        x.mark(3, 5, 8);
        due("best(v, 1, 0)", x.best(v, 1, 0), 0);
        due("best(v, 1, 1)", x.best(v, 1, 1), 0);
        due("best(v, 2, 1)", x.best(v, 2, 1), 1);
        // and both
        x.asks(1, 0, 0, 0);
        x.mark(4, 5, 9);
        due("best(v, 1, 0)", x.best(v, 1, 0), 1);
        due("best(v, 1, 1)", x.best(v, 1, 1), 1);
        due("best(v, 2, 0)", x.best(v, 2, 0), 0);
        due("best(v, 2, 1)", x.best(v, 2, 1), 2);
        due("best(v, 3, 0)", x.best(v, 3, 0), -1);
        due("best(v, -1, 0)", x.best(v, -1, 0), -1);
        due("best(v, 0, 2)", x.best(v, 0, 2), -1);
        due("best(v, 0, -1)", x.best(v, 0, -1), -1);
        due("best(1, 0, 0)", x.best(1, 0, 0), -1);
        // two parts are two unlike ones: "ma at least 1" twice would do here
        BecauseOf y = new BecauseOf();
        Texts.view(y, "within 5");
        ask(y, 0, 0, 2, 0, 9);
        ask(y, 1, 0, 2, 0, 1);
        ask(y, 0, 0, 0, 0, 0);
        due("best(0, 1, 0)", y.best(0, 1, 0), 0);
        due("best(0, 2, 0)", y.best(0, 2, 0), 1);
        // 200 of them
        BecauseOf z = new BecauseOf();
        Texts.view(z, "within 5");
        ask(z, 99, 0, 2);
        ask(z, 101, 1, 0);
        z.mark(199, 0, 4);
        due("best of 200", z.best(0, 0, 0), 101);
        due("best of 200", z.best(0, 1, 0), 0);
        due("best of 200", z.best(0, 2, 0), 99);
        due("few of 200", z.few(0, 100), 1);
    }

    private static void own() {
        BecauseOf x = grouped();
        due("own(0, 0, 0)", x.own(0, 0, 0), 4);
        due("own(0, 0, 1)", x.own(0, 0, 1), 1);
        due("own(0, 3, 0)", x.own(0, 3, 0), 4);
        due("own(0, 3, 1)", x.own(0, 3, 1), 2);
        due("own(0, 1, 0)", x.own(0, 1, 0), 0);
        due("own(0, 8, 0)", x.own(0, 8, 0), -1);
        due("own(0, 9, 0)", x.own(0, 9, 0), -1);
        due("own(0, -1, 0)", x.own(0, -1, 0), -1);
        due("own(0, 0, 2)", x.own(0, 0, 2), -1);
        due("own(0, 0, -1)", x.own(0, 0, -1), -1);
        due("own(1, 0, 0)", x.own(1, 0, 0), -1);
        // one that the VIEW does not take
        int ones = Texts.view(x, "among trait = 1; like ma");
        due("own(ones, 0, 0)", x.own(ones, 0, 0), 2);
        due("own(ones, 7, 1)", x.own(ones, 7, 1), 1);
        int all = Texts.view(x, "near mb 4");
        due("own(all, 8, 0)", x.own(all, 8, 0), 8);
        due("own(all, 8, 1)", x.own(all, 8, 1), 4);
    }

    private static void changes(BecauseOf x, int k, int rule, int... want) {
        for (int what = 0; what < 6; what++) {
            due("change(" + k + ", " + rule + ", " + what + ")", x.change(k, rule, what), want[what]);
        }
    }

    private static void change() {
        BecauseOf x = new BecauseOf();
        ask(x, 0, 0, 0, 0, 3, 3, -1, 5);
        changes(x, 0, Texts.rule(x, "ma = 3"), 0, 0, -1, -1, -1, -1);
        changes(x, 0, Texts.rule(x, "ma > 5"), 3, 1, 0, 6, -1, -1);
        changes(x, 0, Texts.rule(x, "mc >= 4"), 10, 1, 2, 4, -1, -1);
        // one MARK rather than two, the first rather than the second, the lower value
        changes(x, 0, Texts.rule(x, "ma + mb = 8"), 2, 1, 0, 5, -1, -1);
        changes(x, 0, Texts.rule(x, "ma - 3 > 0 or 3 - ma > 0"), 1, 1, 0, 2, -1, -1);
        changes(x, 0, Texts.rule(x, "mb < 2 and md >= 7"), 4, 2, 1, 1, 3, 7);
        changes(x, 0, Texts.rule(x, "ma = 4 and mb = 4 and md = 4"), -2, -2, -2, -2, -2, -2);
        changes(x, 0, Texts.rule(x, "trait = 1"), -2, -2, -2, -2, -2, -2);
        due("change(0, 8, 0)", x.change(0, 8, 0), -1);
        due("change(0, -1, 0)", x.change(0, -1, 0), -1);
        due("change(1, 0, 0)", x.change(1, 0, 0), -1);
        due("change(-1, 0, 0)", x.change(-1, 0, 0), -1);
        due("change(0, 5, 6)", x.change(0, 5, 6), -1);
        due("change(0, 5, BIG)", x.change(0, 5, BIG), -1);
        due("change(0, 0, -1)", x.change(0, 0, -1), -1);
        due("told(0, 4)", x.told(0, 4), 3);

        BecauseOf y = new BecauseOf();
        ask(y, 0, 0, 0, 0, 3, 3, -1, 5);
        // two MARKS with fewer steps before one with more
        changes(y, 0, Texts.rule(y, "mc = 1 or mb = 6 and md = 9"), 7, 2, 1, 6, 3, 9);
        changes(y, 0, Texts.rule(y, "me = 0 and mf = 9"), 20, 2, 4, 0, 5, 9);
        // both as many steps: one MARK, though it comes later
        changes(y, 0, Texts.rule(y, "ma = 4 and mb = 4 or md = 7"), 2, 1, 3, 7, -1, -1);
        // of two: the least first, its least value, the least second, its least value
        changes(y, 0, Texts.rule(y, "not ma = 3 and not mb = 3"), 2, 2, 0, 2, 1, 2);
        changes(y, 0, Texts.rule(y, "ma = 4 and [mb = 4 or md = 4 or md = 6]"), 2, 2, 0, 4, 1, 4);
        changes(y, 0, Texts.rule(y, "mb = 2 and md = 4 or ma = 4 and md = 6 or ma = 4 and md = 4"), 2, 2, 0, 4, 3, 4);
        changes(y, 0, Texts.rule(y, "ma = 2 and md = 6 or ma = 4 and mb = 2"), 2, 2, 0, 2, 3, 6);
        // telling a missing MARK may make a RULE false
        changes(y, 0, Texts.rule(y, "not mc >= 0 and ma = 9"), 6, 1, 0, 9, -1, -1);
    }

    // ---- 37 to 39: IMAGES, counts

    private static void image() {
        BecauseOf x = new BecauseOf();
        due("image(4)", x.image(4), -1);
        due("image(-1)", x.image(-1), -1);
        due("image(0)", x.image(0), 0);
        ask(x, 1, 2, 2, 1, 3);
        due("image(3)", x.image(3), 1);
        x.asks(0, 0, 0, 0);
        due("image(3)", x.image(3), 2);
        due("back(0)", x.back(0), 0);
        due("count(0)", x.count(0), 0);
        due("back(3)", x.back(3), 2);
        due("told(0, 1)", x.told(0, 1), 2);
    }

    private static void back() {
        BecauseOf x = new BecauseOf();
        due("back(0), never made", x.back(0), -1);
        due("back(4)", x.back(4), -1);
        due("back(-1)", x.back(-1), -1);
        ask(x, 1, 3, 2, -1, 4, 5, 6, 7, 8, 9);
        x.letter(3, true, false);
        x.image(1);
        x.mark(0, 0, 0);
        x.asks(0, 0, 0, 0);
        x.mark(1, 5, 5);
        x.letter(0, false, true);
        Texts.view(x, "like ma");
        Texts.rule(x, "ma = 4");
        x.feed(1, 2, 3, 4, 5);
        x.image(2);
        due("back(0), never made", x.back(0), -1);
        due("count(0)", x.count(0), 2);
        due("back(1)", x.back(1), 1);
        int[] told = {1, 3, 2, -1, 4, 5, 6, 7, 8, 9};
        for (int what = 0; what < 10; what++) {
            due("told(0, " + what + ")", x.told(0, what), told[what]);
        }
        due("told(1, 0)", x.told(1, 0), -2);
        int[] counts = {1, 1, 1, 1, 20};
        for (int what = 0; what < 5; what++) {
            due("count(" + what + ")", x.count(what), counts[what]);
        }
        due("turned(3, 2)", x.turned(3, 2), 1);
        due("turned(0, 0)", x.turned(0, 0), 0);
        due("says(0, 0)", x.says(0, 0), 1);
        // a new CASE has no MARKS of one that was there before
        due("asks", x.asks(1, 1, 1, 1), 1);
        due("told(1, 9)", x.told(1, 9), -1);
        // an IMAGE stays as it was made
        due("back(2)", x.back(2), 2);
        due("told(0, 4)", x.told(0, 4), 0);
        due("told(1, 9)", x.told(1, 9), 5);
        due("turned(-1, 0)", x.turned(-1, 0), 2);
        x.mark(1, 5, 6);
        due("back(2)", x.back(2), 2);
        due("told(1, 9)", x.told(1, 9), 5);
        due("back(1)", x.back(1), 1);
    }

    private static void count() {
        BecauseOf x = new BecauseOf();
        ask(x, 5, 0, 0);
        send(x, 0, 4, 0);
        for (int i = 0; i < 3; i++) {
            Texts.view(x, "like ma");
        }
        Texts.rule(x, "1=1");
        Texts.rule(x, "1=1");
        Texts.put(x, "x");
        int[] want = {5, 4, 3, 2, 1};
        for (int what = 0; what < 5; what++) {
            due("count(" + what + ")", x.count(what), want[what]);
        }
        due("count(5)", x.count(5), -1);
        due("count(-1)", x.count(-1), -1);
        due("count(BIG)", x.count(BIG), -1);
        due("count(SMALL)", x.count(SMALL), -1);
    }

    private static void all(int from) {
        promise = from;
        switch (from) {
            case 1: aNewObject(); break;
            case 2: asks(); break;
            case 3: mark(); break;
            case 4: told(); break;
            case 5: feed(); break;
            case 6: end(); break;
            case 7: view(); break;
            case 8: rule(); break;
            case 9: says(); break;
            case 10: takes(); break;
            case 11: table(); break;
            case 12: gap(); break;
            case 13: luck(); break;
            case 14: group(); break;
            case 15: lacks(); break;
            case 16: pairs(); break;
            case 17: next(); break;
            case 18: sway(); break;
            case 19: letter(); break;
            case 20: turned(); break;
            case 21: coin(); break;
            case 22: hidden(); break;
            case 23: edge(); break;
            case 24: ends(); break;
            case 25: claim(); break;
            case 26: sight(); break;
            case 27: even(); break;
            case 28: way(); break;
            case 29: split(); break;
            case 30: holds(); break;
            case 31: nearest(); break;
            case 32: clash(); break;
            case 33: few(); break;
            case 34: best(); break;
            case 35: own(); break;
            case 36: change(); break;
            case 37: image(); break;
            case 38: back(); break;
            default: count();
        }
    }

    public static void main(String[] args) {
        for (int i = 1; i <= 39; i++) {
            all(i);
        }
        System.out.println("39 promises, " + wrong + " answers not as due");
        if (wrong > 0) System.exit(1);
    }
}
