/** The boundaries of promises 5 to 9: the TAPE, and the texts that become VIEWS and RULES. */
final class BoundaryTexts {
    private static final int NONE = Boundary.NONE;
    private static final int BLANKS = 0x20202020;

    private BoundaryTexts() {
    }

    static void all() {
        feed();
        feedFull();
        end();
        tapeOfView();
        tapeOfRule();
        clauses();
        numbersOfClauses();
        onceAtMost();
        longTexts();
        words();
        strange();
        numbers();
        deep();
        deepSigns();
        many();
        leastOfOnePlace();
        says();
        signs();
        missing();
        others();
    }

    private static void at(int promise, String words) {
        Boundary.at(promise, words);
    }

    private static void due(String call, long got, long want) {
        Boundary.due(call, got, want);
    }

    private static int blanks(BecauseOf x) {
        return x.feed(BLANKS, BLANKS, BLANKS, BLANKS, BLANKS);
    }

    // ---- 5 and 6: the TAPE

    private static void feed() {
        at(5, "Twenty bytes come behind the TAPE, of each number the highest first: how many it has");
        BecauseOf x = new BecauseOf();
        due("the first feed", x.feed(0x6d612b6d, 0x622b6d63, 0x2b6d643d, 0x74726169, 0x742b3131), 20);
        due("the second feed", x.feed(0x2b313220, 0x616e6420, 0x6e6f7420, 0x6d653d35, 0x20202020), 40);
        due("rule() of <ma+mb+mc+md=trait+11+12 and not me=5>", x.rule(), 0);
        Boundary.ask(x, 0, 0, 0, 0, 9, 9, 5, 0, 4);
        Boundary.ask(x, 0, 0, 0, 0, 9, 9, 5, 0, 5);
        due("says(0, 0)", x.says(0, 0), 1);
        due("says(0, 1)", x.says(0, 1), 0);
        // the least and the greatest byte, and the numbers at both ends: each byte at its place
        int[][] all = {{0, 0}, {-1, 0}, {Boundary.SMALL, 0}, {Boundary.BIG, 0}, {BLANKS | 255, 3}, {0x202020ff, 3}, {0x2020ff20, 2}, {0x20ff2020, 1}};
        for (int[] a : all) {
            BecauseOf y = new BecauseOf();
            due("feed", y.feed(a[0], BLANKS, BLANKS, BLANKS, BLANKS), 20);
            due("rule() with a first number " + a[0], y.rule(), Boundary.fault(a[1], 0));
            due("feed", y.feed(BLANKS, BLANKS, BLANKS, BLANKS, a[0]), 20);
            due("rule() with a last number " + a[0], y.rule(), Boundary.fault(16 + a[1], 0));
        }
    }

    private static void feedFull() {
        at(5, "NONE, and none comes, if it would have more than 400.");
        BecauseOf x = new BecauseOf();
        for (int i = 1; i <= 19; i++) due("feed", blanks(x), 20 * i);
        due("the twentieth feed", x.feed(BLANKS, BLANKS, BLANKS, BLANKS, 0x20313d31), 400);
        due("one more", x.feed(-1, -1, -1, -1, -1), NONE);
        due("count(4)", x.count(4), 400);
        due("rule() of 400 bytes", x.rule(), 0);
        for (int length = 379; length <= 382; length++) {
            BecauseOf y = new BecauseOf();
            for (int i = 1; i <= 20; i++) blanks(y);
            y.end(length);
            boolean fits = length <= 380;
            due("feed behind " + length + " bytes", y.feed(0x313d3120, BLANKS, BLANKS, BLANKS, BLANKS), fits ? length + 20 : NONE);
            due("count(4)", y.count(4), fits ? length + 20 : length);
            due("rule()", y.rule(), fits ? 0 : Boundary.fault(length, 0));
        }
        // behind a text that is read there is room for 400 again
        due("feed", blanks(x), 20);
        due("end(0)", x.end(0), 0);
        due("feed", blanks(x), 20);
    }

    private static void end() {
        at(6, "NONE, and nothing happens, if it has not so many, or n is below 0.");
        BecauseOf x = new BecauseOf();
        due("end(0) of an empty one", x.end(0), 0);
        Boundary.beside("end of an empty one", x::end, 0, 0, NONE);
        x.feed(0x6d613d31, 0x20202020, 0x6d613d31, BLANKS, BLANKS);
        Boundary.beside("end of twenty bytes", x::end, 0, 20, NONE);
        due("count(4)", x.count(4), 20);
        due("end(20)", x.end(20), 20);
        due("end(19)", x.end(19), 19);
        due("end(20)", x.end(20), NONE);

        at(6, "The TAPE has its first n bytes alone: n");
        due("end(9)", x.end(9), 9);
        due("count(4)", x.count(4), 9);
        due("rule() of <ma=1    m>", x.rule(), Boundary.fault(8, 0));
        x.feed(0x6d613d31, 0x20202020, 0x6d613d31, BLANKS, BLANKS);
        due("end(8)", x.end(8), 8);
        due("rule() of <ma=1    >", x.rule(), 0);
        // what comes behind then comes behind these
        x.feed(-1, -1, -1, -1, -1);
        due("end(0)", x.end(0), 0);
        due("count(4)", x.count(4), 0);
        due("feed", x.feed(0x313d3132, BLANKS, BLANKS, BLANKS, BLANKS), 20);
        due("end(3)", x.end(3), 3);
        due("feed", x.feed(0x3d313131, BLANKS, BLANKS, BLANKS, BLANKS), 23);
        due("rule() of <1=1=111>", x.rule(), Boundary.fault(3, 0));
        for (int i = 0; i < 20; i++) blanks(x);
        Boundary.beside("end of a full one", x::end, 0, 400, NONE);
        due("end(400)", x.end(400), 400);
        due("end(399)", x.end(399), 399);
        due("end(400)", x.end(400), NONE);
    }

    // ---- 7 and 8: eight VIEWS, eight RULES

    private static void tapeOfView() {
        at(7, "NONE, and nothing happens: there are 8.");
        BecauseOf x = new BecauseOf();
        for (int v = 0; v < 7; v++) due("view()", Texts.view(x, "like ma"), v);
        due("the eighth view()", Texts.view(x, "within 1"), 7);
        String[] more = {"like ma", "like", "", "12345"};
        for (String text : more) {
            Texts.put(x, text);
            due("a ninth view() of <" + text + ">", x.view(), NONE);
            due("count(4)", x.count(4), text.length());
            due("count(2)", x.count(2), 8);
            x.end(0);
        }
        Texts.put(x, "ma = 1");
        due("a ninth view()", x.view(), NONE);
        due("rule() of what it left", x.rule(), 0);

        at(7, "VIEWS 0 to 7");
        x.asks(0, 0, 0, 0);
        due("takes(0, NONE)", x.takes(0, NONE), 0);
        due("takes(6, NONE)", x.takes(6, NONE), 0);
        due("takes(7, NONE)", x.takes(7, NONE), 1);
        Boundary.beside("takes of a VIEW", v -> x.takes(v, NONE), 0, 7, NONE);

        at(7, "The TAPE, which is empty then, is a VIEW: its number");
        BecauseOf y = new BecauseOf();
        due("view()", Texts.view(y, "like ma"), 0);
        due("count(4)", y.count(4), 0);
        due("view() of the empty one", y.view(), Boundary.fault(0, 0));
        due("feed", blanks(y), 20);

        at(7, "-2 - its FAULT");
        due("view() of blanks", y.view(), Boundary.fault(20, 0));
        due("count(4)", y.count(4), 0);
        due("count(2)", y.count(2), 1);
        due("takes(1, NONE)", y.takes(1, NONE), NONE);
        due("the least FAULT", Texts.view(y, ";"), -3);
        due("the greatest FAULT of a place", Texts.view(y, "like ma;like ma"), -3 - 8 * 13 - 4);
        due("a FAULT at place 399", Texts.view(y, " ".repeat(399) + "x"), -3 - 8 * 399);
        due("a FAULT behind 400 bytes", Texts.view(y, " ".repeat(400)), -3 - 8 * 400);
        due("the second VIEW", Texts.view(y, " ".repeat(393) + "like ma"), 1);
    }

    private static void tapeOfRule() {
        at(8, "The same as a RULE.");
        BecauseOf x = new BecauseOf();
        for (int v = 0; v < 7; v++) due("rule()", Texts.rule(x, "1=2"), v);
        due("the eighth rule()", Texts.rule(x, "1=1"), 7);
        String[] more = {"1=1", "1", "", "12345"};
        for (String text : more) {
            Texts.put(x, text);
            due("a ninth rule() of <" + text + ">", x.rule(), NONE);
            due("count(4)", x.count(4), text.length());
            due("count(3)", x.count(3), 8);
            x.end(0);
        }
        Texts.put(x, "like ma");
        due("a ninth rule()", x.rule(), NONE);
        due("view() of what it left", x.view(), 0);

        at(8, "RULES 0 to 7: texts, each a TEST.");
        x.asks(0, 0, 0, 0);
        due("says(0, 0)", x.says(0, 0), 0);
        due("says(6, 0)", x.says(6, 0), 0);
        due("says(7, 0)", x.says(7, 0), 1);
        Boundary.beside("says of a RULE", r -> x.says(r, 0), 0, 7, NONE);
        BecauseOf y = new BecauseOf();
        due("rule() of the empty TAPE", y.rule(), Boundary.fault(0, 0));
        blanks(y);
        due("rule() of blanks", y.rule(), Boundary.fault(20, 0));
        due("count(4)", y.count(4), 0);
        due("count(3)", y.count(3), 0);
        due("says(0, 0)", y.says(0, 0), NONE);
        due("a FAULT at place 399", Texts.rule(y, " ".repeat(399) + "x"), -3 - 8 * 399);
        due("a FAULT behind 400 bytes", Texts.rule(y, " ".repeat(397) + "1= "), -3 - 8 * 400);
        due("two TESTS", Texts.rule(y, "1=1;1=1"), Boundary.fault(3, 0));
        due("rule() of 400 bytes", Texts.rule(y, " ".repeat(397) + "1=1"), 0);
        due("count(4)", y.count(4), 0);
    }

    // ---- 7: clauses

    private static void clauses() {
        at(7, "texts of at most 400 bytes, CLAUSE { ; CLAUSE }");
        Boundary.readsView("like ma", "like ma;like mb", "like ma;like mb;like mc;near md 1;near me 1;near mf 1;within 1;among 1=1");
        Boundary.refusesView("", 0, 0);
        Boundary.refusesView(";", 0, 0);
        Boundary.refusesView("like ma;", 8, 0);
        Boundary.refusesView("like ma; ", 9, 0);
        Boundary.refusesView(";like ma", 0, 0);
        Boundary.refusesView("like ma;;like mb", 8, 0);
        Boundary.refusesView("like ma like mb", 8, 0);
        Boundary.readsView("like ma" + " ".repeat(393), " ".repeat(393) + "like ma", " ".repeat(200) + "like ma" + " ".repeat(193));
        Boundary.refusesView("like ma" + " ".repeat(392) + ";", 400, 0);

        at(7, "CLAUSE: among TEST | like MARK | near MARK NUMBER (1 to 99) | within NUMBER (0 to 999).");
        Boundary.readsView("among ma = 1", "like mf", "near mf 5", "within 5");
        Boundary.refusesView("among", 5, 0);
        Boundary.refusesView("like", 4, 0);
        Boundary.refusesView("near", 4, 0);
        Boundary.refusesView("near ma", 7, 0);
        Boundary.refusesView("within", 6, 0);
        Boundary.refusesView("among ma", 8, 0);
        Boundary.refusesView("among ma =", 10, 0);
        Boundary.refusesView("like ma 5", 8, 0);
        Boundary.refusesView("near ma 5 5", 10, 0);
        Boundary.refusesView("near 5 ma", 5, 0);
        Boundary.refusesView("within 5 5", 9, 0);
        Boundary.refusesView("within -1", 7, 0);
        Boundary.refusesView("near ma -1", 8, 0);
        Boundary.refusesView("amon 1=1", 0, 0);
        Boundary.refusesView("ma = 1", 0, 0);
        Boundary.refusesView("not 1=1", 0, 0);
    }

    private static void numbersOfClauses() {
        at(7, "near MARK NUMBER (1 to 99)");
        Boundary.readsView("near ma 1", "near ma 99", "near ma 0001", "near ma 0099", "near ma 01");
        for (String n : new String[] {"0", "100", "0000", "0100", "999", "9999", "257", "65537"}) Boundary.refusesView("near ma " + n, 8, 1);
        at(7, "within NUMBER (0 to 999)");
        Boundary.readsView("within 0", "within 999", "within 0000", "within 0999", "within 1");
        for (String n : new String[] {"1000", "9999", "1001", "65536", "4294967296"}) Boundary.refusesView("within " + n, 7, 1);
        // and these are the numbers that count
        BecauseOf x = new BecauseOf();
        Texts.view(x, "near ma 99; within 99");
        Texts.view(x, "near ma 99; within 98");
        Texts.view(x, "near ma 0001; within 0001");
        Texts.view(x, "near ma 1; within 0");
        Boundary.ask(x, 0, 0, 0, 0, 4);
        Boundary.ask(x, 1, 0, 0, 0, 5);
        int[] sums = {99, 0, 1, 0};
        for (int v = 0; v < 4; v++) {
            due("pairs(" + v + ", 1)", x.pairs(v, 1), sums[v]);
            due("pairs(" + v + ", 0)", x.pairs(v, 0), 1 - v % 2);
        }
    }

    private static void onceAtMost() {
        at(7, "among and within once at most");
        Boundary.readsView("among 1=1;within 5", "within 5;among 1=1");
        Boundary.refusesView("among 1=1;among 1=1", 10, 4);
        Boundary.refusesView("within 5;within 5", 9, 4);
        Boundary.refusesView("within 0;within 0", 9, 4);
        Boundary.refusesView("within 5;among 1=1;like ma;within 7", 27, 4);

        at(7, "a MARK once at most in like and near together.");
        Boundary.readsView("like ma;like mb", "like ma;near mb 5", "near ma 5;near mb 5", "like ma;among ma=1", "near mf 1;like me");
        Boundary.refusesView("like ma;like ma", 13, 4);
        Boundary.refusesView("like ma;near ma 5", 13, 4);
        Boundary.refusesView("near ma 5;like ma", 15, 4);
        Boundary.refusesView("near ma 5;near ma 5", 15, 4);
        Boundary.refusesView("like mf;like me;near mf 5", 21, 4);
        Boundary.refusesView("like ma;like mb;like mc;like md;like me;like mf;like ma", 53, 4);

        at(7, "4 a second among or within (at it), a MARK named before (at it).");
        Boundary.refusesView("among 1=1;  among", 12, 4);
        Boundary.refusesView("within 5;  within", 11, 4);
        Boundary.refusesView("within 5;  within 1000", 11, 4);
        Boundary.refusesView("like ma;  near   ma", 17, 4);
        Boundary.refusesView("like ma;like mb;like ma;like mb", 21, 4);
        // one that was at fault is no first
        Boundary.refusesView("within 1000;within 5", 7, 1);
        Boundary.refusesView("near ma 0;like ma", 8, 1);
        Boundary.refusesView("among 1=1 among 1=1", 10, 0);
    }

    private static void longTexts() {
        at(8, "texts of at most 400 bytes");
        String shorter = "not ma = 1 and " + " ".repeat(379) + "mb = 1";
        due("a text's length", shorter.length(), 400);
        BecauseOf x = new BecauseOf();
        due("rule() of 400 bytes", Texts.rule(x, shorter), 0);
        Boundary.ask(x, 0, 0, 0, 0, 2, 1);
        Boundary.ask(x, 0, 0, 0, 0, 2, 2);
        due("says(0, 0)", x.says(0, 0), 1);
        due("says(0, 1)", x.says(0, 1), 0);
        // more comes not on the TAPE, and so the text ends with 400
        BecauseOf y = new BecauseOf();
        for (int i = 0; i < 19; i++) blanks(y);
        due("feed", y.feed(BLANKS, BLANKS, BLANKS, BLANKS, 0x2020313d), 400);
        due("feed of the text's end", y.feed(0x31202020, BLANKS, BLANKS, BLANKS, BLANKS), NONE);
        due("rule() of <.. 1=>", y.rule(), Boundary.fault(400, 0));
        due("rule() of 400 digits", Texts.rule(y, "1".repeat(400)), Boundary.fault(0, 1));
        due("rule() of 400 letters", Texts.rule(y, "m".repeat(400)), Boundary.fault(0, 0));
        due("rule() of 400 signs", Texts.rule(y, "[".repeat(400)), Boundary.fault(10, 2));
        due("rule() of 400 bytes 255", Texts.rule(y, "\u00ff".repeat(400)), Boundary.fault(0, 0));
        due("view() of 400 ;", Texts.view(y, ";".repeat(400)), Boundary.fault(0, 0));
        due("rule() of 10 signs", Texts.rule(y, "[".repeat(10)), Boundary.fault(10, 0));
        // a FAULT leaves nothing for the next text
        due("rule() of 400 bytes", Texts.rule(y, "ma = 1" + " ".repeat(394)), 0);
        due("view() of 400 bytes", Texts.view(y, "among ma = 1" + " ".repeat(388)), 0);
    }

    // ---- 7 and 8: words, bytes, numbers

    private static void words() {
        at(8, "WORDS (small letters and digits, as far as these go on)");
        Boundary.readsTest("ma=1", "mf=1", "trait=1", "office=1", "stage=1", "came=1", "known=1", "1=1and 1=1", "1=1or 1=1", "not[1=1]");
        String[] no = {"m", "mg", "maa", "maz", "ma0", "ma9", "mb1", "trai", "traits", "offic", "offices", "stag", "stages", "cam", "cames", "know", "knowns", "a", "z", "like"};
        for (String word : no) Boundary.refusesTest(word + "=1", 0, 0);
        Boundary.refusesTest("1=1 andma=1", 4, 0);
        Boundary.refusesTest("1=1 and1=1", 4, 0);
        Boundary.refusesTest("1=1 or1=1", 4, 0);
        Boundary.refusesTest("not1=1", 0, 0);
        Boundary.refusesTest("1=1 an ma=1", 4, 0);
        Boundary.refusesTest("ma=mb1", 3, 0);

        at(7, "A MARK of like and near is such a WORD.");
        Boundary.readsView("like ma", "like mf", "near ma 1", "near mf 1", "like ma;near mf 1");
        for (String word : new String[] {"m", "mg", "ma0", "mab", "trait", "known", "like", "1", "M", "and"}) {
            Boundary.refusesView("like " + word, 5, 0);
            Boundary.refusesView("near " + word + " 5", 5, 0);
        }
        Boundary.refusesView("near ma5", 5, 0);
        Boundary.refusesView("likema", 0, 0);
        Boundary.refusesView("within5", 0, 0);

        at(8, "Blanks (32) stand between as one likes.");
        Boundary.readsTest("ma=1", " ma = 1 ", "   ma   =   1   ", "[ma=1]", "  [  ma  =  1  ]  ");
        Boundary.readsView(" like ma ", "like   ma   ;   near   mb   5   ", "  within 5");
        for (int b : new int[] {0, 9, 10, 13, 31, 33, 127, 128, 160, 255}) {
            Boundary.refusesTest("ma" + (char) b + "=1", 2, 0);
            Boundary.refusesTest((char) b + "ma=1", 0, 0);
            Boundary.refusesTest("ma=1" + (char) b, 4, 0);
            Boundary.refusesView("like" + (char) b + "ma", 4, 0);
        }
        // not within one WORD, NUMBER or SIGN
        Boundary.refusesTest("m a=1", 0, 0);
        Boundary.refusesTest("ma=1 2", 5, 0);
        Boundary.refusesTest("ma< =1", 4, 0);
        Boundary.refusesTest("ma> =1", 4, 0);
    }

    private static void strange() {
        at(8, "0 a byte or WORD that can't stand there, or the end (behind the last byte)");
        Boundary.readsTest("ma=1", "[ma=1]", "ma+1-2=mb");
        // the bytes just beside letters, digits and signs
        for (char b : "`{/:@A Z(\\^,.*!?".replace(" ", "").toCharArray()) {
            Boundary.refusesTest(b + "ma=1", 0, 0);
            Boundary.refusesTest("ma" + b + "=1", 2, 0);
            Boundary.refusesTest("ma=1" + b, 4, 0);
        }
        String[] ends = {"", "ma", "ma=", "ma+", "ma=1+", "[", "[ma=1", "not", "ma=1 and", "ma=1 or", "not [ma=1 and", "[[ma=1]"};
        for (String text : ends) {
            Boundary.refusesTest(text, text.length(), 0);
            Boundary.refusesTest(text + "  ", text.length() + 2, 0);
        }
        // the WORDS that stand elsewhere are no VALUES
        for (String word : new String[] {"among", "like", "near", "within", "and", "or", "not"}) {
            Boundary.refusesTest("1=" + word, 2, 0);
            Boundary.refusesTest("1+" + word + "=1", 2, 0);
            Boundary.refusesTest(word + "=1", word.equals("not") ? 3 : 0, 0);
        }
        Boundary.refusesTest("]", 0, 0);
        Boundary.refusesTest("[]", 1, 0);
        Boundary.refusesTest("ma=1]", 4, 0);
        Boundary.refusesTest("[ma=1]]", 6, 0);
        Boundary.refusesTest("[ma]=1", 3, 0);
        Boundary.refusesTest("[ma=1]=1", 6, 0);
        Boundary.refusesTest("ma=1=1", 4, 0);
        Boundary.refusesTest("ma==1", 3, 0);
        Boundary.refusesTest("ma=<1", 3, 0);
        Boundary.refusesTest("ma<>1", 3, 0);
        Boundary.refusesTest("ma<==1", 4, 0);
        Boundary.refusesTest("-1=1", 0, 0);
        Boundary.refusesTest("ma=+1", 3, 0);
        Boundary.refusesTest("and ma=1", 0, 0);
        Boundary.refusesTest("ma=1 and or mb=1", 9, 0);
        Boundary.refusesTest("ma=1 not mb=1", 5, 0);
        Boundary.refusesTest("ma=1[mb=1]", 4, 0);
        Boundary.refusesView("among [ma=1;like mb", 11, 0);
        Boundary.refusesView("like ma]", 7, 0);

        at(8, "FAULTS, the first along the text, 1 + 8 * its place and");
        Boundary.refusesTest("12345=?", 0, 1);
        Boundary.refusesTest("?=12345", 0, 0);
        Boundary.refusesTest("ma=12345 and mb=12345", 3, 1);
        Boundary.refusesTest("ma=1 and ? " + "[".repeat(11), 9, 0);
        Boundary.refusesView("near ma 0;within 1000", 8, 1);
        Boundary.refusesView("like ma;like ma;within 1000", 13, 4);
    }

    private static void numbers() {
        at(8, "NUMBER (1 to 4 digits, as far as digits go on)");
        Boundary.readsTest("1=0", "12=1", "123=1", "9999=1", "0000=1", "0001=1", "ma=9999", "1=1 or 9=9999");
        Boundary.refusesTest("12345=1", 0, 1);
        Boundary.refusesTest("00000=1", 0, 1);
        Boundary.refusesTest("1=00001", 2, 1);
        Boundary.refusesTest("ma=10000", 3, 1);
        Boundary.refusesTest("ma+ma-99999=1", 6, 1);
        Boundary.refusesTest("1=4294967297", 2, 1);
        Boundary.says("9=0009", 1, 0, 0, 0, 0);
        Boundary.says("9999>9998", 1, 0, 0, 0, 0);
        Boundary.says("1000>9999", 0, 0, 0, 0, 0);

        at(7, "1 a NUMBER of more digits, or not as told");
        Boundary.readsView("near ma 0099", "within 0999");
        Boundary.refusesView("near ma 00099", 8, 1);
        Boundary.refusesView("near ma 00001", 8, 1);
        Boundary.refusesView("within 00999", 7, 1);
        Boundary.refusesView("within 00000", 7, 1);
        Boundary.refusesView("within   12345x", 9, 1);
        Boundary.refusesView("within 5x", 8, 0);
        // where no NUMBER can stand one of more digits is strange
        Boundary.refusesView("12345", 0, 0);
        Boundary.refusesView("like 12345", 5, 0);
        Boundary.refusesView("near ma 5 12345", 10, 0);
        Boundary.refusesTest("ma 12345", 3, 0);
        Boundary.refusesTest("ma=1 12345", 5, 0);
        Boundary.refusesTest("[1=1]12345", 5, 0);
    }

    // ---- 7 and 8: depth and how many

    private static void deep() {
        at(8, "[ and not lie within one another 10 deep at most");
        Boundary.readsTest("[".repeat(10) + "ma=1" + "]".repeat(10), "not ".repeat(10) + "ma=1",
                "not [".repeat(5) + "ma=1" + "]".repeat(5), "[".repeat(9) + "not ma=1" + "]".repeat(9));
        Boundary.refusesTest("[".repeat(11) + "ma=1" + "]".repeat(11), 10, 2);
        Boundary.refusesTest("not ".repeat(11) + "ma=1", 40, 2);
        Boundary.refusesTest("not [".repeat(5) + "[ma=1]" + "]".repeat(5), 25, 2);
        Boundary.refusesTest("not [".repeat(5) + "not ma=1" + "]".repeat(5), 25, 2);
        Boundary.refusesTest("[".repeat(10) + "not ma=1" + "]".repeat(10), 10, 2);
        // side by side they lie not within one another
        String ten = "[".repeat(10) + "1=1" + "]".repeat(10);
        Boundary.readsTest(ten + " and " + ten + " or " + ten, "not ".repeat(10) + "1=1 or " + "not ".repeat(10) + "1=1 and " + ten);
        Boundary.readsTest("[".repeat(9) + "[1=1] and [1=1] or not 1=1 and not 1=1" + "]".repeat(9));
        Boundary.refusesTest("[".repeat(9) + "[1=1] and [not 1=1]" + "]".repeat(9), 20, 2);
        // so many, right in the deepest one
        Boundary.says("not ".repeat(10) + "1=1", 1, 0, 0, 0, 0);
        Boundary.says("not ".repeat(9) + "1=1", 0, 0, 0, 0, 0);
        Boundary.says("1=2 or [1=1 and [".repeat(5) + "1=1" + "]".repeat(10), 1, 0, 0, 0, 0);
        Boundary.says("1=2 or [1=1 and [".repeat(5) + "1=2" + "]".repeat(10), 0, 0, 0, 0, 0);
        Boundary.says("1=1 or [1=2 and [".repeat(5) + "1=2" + "]".repeat(10), 1, 0, 0, 0, 0);
    }

    private static void deepSigns() {
        at(8, "2 too deep (at the sign that opens, or the word not)");
        Boundary.readsTest("[".repeat(10) + "  ma=1" + "]".repeat(10));
        Boundary.refusesTest("[".repeat(10) + "  [", 12, 2);
        Boundary.refusesTest("[".repeat(10) + "  not", 12, 2);
        Boundary.refusesTest("not ".repeat(10) + "  not", 42, 2);
        Boundary.refusesTest("not ".repeat(10) + "[?", 40, 2);
        Boundary.refusesTest("[".repeat(10) + "no", 10, 0);
        Boundary.refusesTest("[".repeat(10) + "nota", 10, 0);
        Boundary.refusesTest("[".repeat(10) + "]", 10, 0);
        Boundary.refusesTest("[".repeat(10) + "(", 10, 0);
    }

    private static void many() {
        at(8, "40 VALUES and FACTS made of a SIGN together at most.");
        // n FACTS of two VALUES are 3 n; each +1 is one more
        String thirteen = "1=1" + " or 1=1".repeat(12);
        Boundary.readsTest(thirteen, thirteen + "+1", "1" + "+1".repeat(37) + "=1", "1=1" + "-1".repeat(37), "1+1=1" + "+1".repeat(36));
        Boundary.readsTest("not [" + thirteen + "+1]", "[1=1] and [not 1=1 or [" + "1=1 and ".repeat(10) + "1=1+1]]");
        Boundary.refusesTest(thirteen + "+1+1", 90, 3);
        Boundary.refusesTest("1=1" + "-1".repeat(38), 78, 3);
        Boundary.refusesTest("ma" + "+ma".repeat(38) + "=ma", 117, 3);
        Boundary.refusesTest("not [" + thirteen + "+1+1]", 95, 3);
        // by each text anew
        BecauseOf x = new BecauseOf();
        for (int i = 0; i < 3; i++) due("rule()", Texts.rule(x, thirteen + "+1"), i);
        due("view()", Texts.view(x, "like ma;among " + thirteen + "+1;near mb 5;within 5"), 0);
        // eight RULES and eight VIEWS, each with as much as there may be
        BecauseOf y = new BecauseOf();
        Boundary.ask(y, 0, 0, 0, 0, 5);
        for (int i = 0; i < 8; i++) {
            String all = "not ".repeat(9) + "[ma=" + i + " or " + "1=2 or ".repeat(11) + "1+1=ma]";
            due("a full rule()", Texts.rule(y, all), i);
            due("a full view()", Texts.view(y, "among " + all), i);
        }
        for (int i = 0; i < 8; i++) {
            due("says(" + i + ", 0)", y.says(i, 0), i == 5 ? 0 : 1);
            due("takes(" + i + ", NONE)", y.takes(i, NONE), i == 5 ? 0 : 1);
        }

        at(8, "3 one VALUE or FACT too many (at its first byte; of a FACT at its SIGN)");
        // the 41st is a VALUE, the second one of a FACT
        Boundary.refusesTest("1" + "+1".repeat(38) + "=  9999", 80, 3);
        // the 41st is a FACT: its first VALUE is the 40th
        Boundary.refusesTest(thirteen + " or 5=5", 92, 3);
        Boundary.refusesTest(thirteen + " or trait  >=5", 98, 3);
        Boundary.refusesTest("1" + "+1".repeat(39) + "<1", 79, 3);
        // the 41st is a VALUE, the first one of a FACT
        Boundary.refusesTest("1=1+1" + " or 1=1".repeat(12) + " or  trait=1", 94, 3);
        Boundary.refusesTest("1" + "+1".repeat(40) + "=1", 80, 3);
        Boundary.readsTest("1" + "+1".repeat(37) + "=9999", "1=1+1" + " or 1=1".repeat(12));
    }

    private static void leastOfOnePlace() {
        at(8, "Of one place the least.");
        String forty = "1=1" + " or 1=1".repeat(12) + "+1";
        Boundary.refusesTest(forty + "+1", 90, 3);
        Boundary.refusesTest(forty + "+12345", 90, 1);
        Boundary.refusesTest(forty + "+?", 90, 0);
        Boundary.refusesTest(forty + "+not", 90, 0);
        Boundary.refusesTest(forty + "+", 90, 0);
        Boundary.refusesTest(forty + " or not 1=1", 97, 3);
        Boundary.refusesTest(forty + " or " + "[".repeat(11), 103, 2);
        Boundary.refusesTest("1" + "+1".repeat(39) + "<1", 79, 3);
        Boundary.refusesTest("1" + "+1".repeat(39) + ";1", 79, 0);
        Boundary.refusesTest("1" + "+1".repeat(39), 79, 0);
        Boundary.refusesTest("1=1" + "[".repeat(11), 3, 0);
        Boundary.refusesView("within 5 within 5", 9, 0);
        Boundary.refusesView("like ma;like ma 12345", 13, 4);
    }

    // ---- 9: says

    private static void says() {
        at(9, "NONE without these.");
        BecauseOf x = new BecauseOf();
        due("says(0, 0) of nothing", x.says(0, 0), NONE);
        Texts.rule(x, "trait=1");
        due("says(0, 0) without a CASE", x.says(0, 0), NONE);
        x.asks(1, 0, 0, 0);
        x.asks(0, 0, 0, 0);
        due("says(0, 0)", x.says(0, 0), 1);
        due("says(0, 1)", x.says(0, 1), 0);
        Boundary.beside("says of a RULE", r -> x.says(r, 0), 0, 0, NONE);
        Boundary.beside("says of a CASE", k -> x.says(0, k), 0, 1, NONE);
        BecauseOf y = new BecauseOf();
        y.asks(1, 0, 0, 0);
        due("says(0, 0) without a RULE", y.says(0, 0), NONE);
        Texts.rule(y, "trait=");
        due("says(0, 0) with a FAULT alone", y.says(0, 0), NONE);
        for (int r = 0; r < 8; r++) Texts.rule(y, "trait=" + r % 2);
        due("says(7, 0)", y.says(7, 0), 1);
        due("says(8, 0)", y.says(8, 0), NONE);
        Boundary.many(y, 199, 1, 0);
        due("says(7, 199)", y.says(7, 199), 1);
        due("says(7, 200)", y.says(7, 200), NONE);
        y.image(0);
        due("says(7, 199)", y.says(7, 199), 1);
    }

    private static void signs() {
        at(9, "1 if a RULE is true of a CASE, 0 if not");
        String[] all = {"<", "<=", "=", ">=", ">"};
        int[][] met = {{1, 0, 0}, {1, 1, 0}, {0, 1, 0}, {0, 1, 1}, {0, 0, 1}};
        for (int s = 0; s < 5; s++) {
            for (int i = 0; i < 3; i++) {
                Boundary.says("ma" + all[s] + (6 - i), met[s][i], 0, 0, 0, 0, 5);
                // at 0 and at the greatest NUMBER, too
                Boundary.says("ma-6" + all[s] + "ma-" + (5 + i), met[s][i], 0, 0, 0, 0, 0);
                Boundary.says("9998" + all[s] + (i == 0 ? "9999" : "999" + (9 - i)), met[s][i], 0, 0, 0, 0);
            }
        }
        // the WORDS at both ends of what they can be
        Boundary.says("ma=0 and mf=9 and trait=0 and office=0 and stage=0", 1, 0, 0, 0, 0, 0, NONE, NONE, NONE, NONE, 9);
        Boundary.says("trait=1 and office=7 and stage=2 and came=1 and known=1", 1, 1, 7, 2, 1);
        // sums that outgrow sixteen bits, upwards and downwards
        String seven = "9999+9999+9999+9999+9999+9999+9999";
        Boundary.says(seven + ">9999", 1, 0, 0, 0, 0);
        Boundary.says("0-" + seven.replace('+', '-') + "<0-9999", 1, 0, 0, 0, 0);
        Boundary.says("9999" + "+9999".repeat(36) + "+1>9999", 1, 0, 0, 0, 0);
        Boundary.says("0" + "-9999".repeat(37) + "<1", 1, 0, 0, 0, 0);
    }

    private static void missing() {
        at(9, "came (0 where it is not known), known (1 if it is, else 0)");
        Boundary.says("came=0 and known=0", 1, 0, 0, 0, NONE);
        Boundary.says("came=0 and known=1", 1, 0, 0, 0, 0);
        Boundary.says("came=1 and known=1", 1, 0, 0, 0, 1);
        Boundary.says("came+1=1", 1, 0, 0, 0, NONE);
        Boundary.says("came<0 or known>0", 0, 0, 0, 0, NONE);

        at(9, "A FACT made of a SIGN in which a MARK stands that the CASE misses is not true.");
        for (String sign : new String[] {"<", "<=", "=", ">=", ">"}) {
            // 0 is not missing; one that is missing is neither below, nor above, nor the same
            Boundary.says("mb" + sign + "0", sign.contains("=") ? 1 : 0, 0, 0, 0, 0, 5, 0);
            Boundary.says("mb" + sign + "0", 0, 0, 0, 0, 0, 5);
            Boundary.says("not mb" + sign + "0", 1, 0, 0, 0, 0, 5);
            Boundary.says("0" + sign + "mb", 0, 0, 0, 0, 0, 5);
            Boundary.says("0-1" + sign + "mb", 0, 0, 0, 0, 0, 5);
            Boundary.says("0-1" + sign + "mb", sign.startsWith("<") ? 1 : 0, 0, 0, 0, 0, 5, 0);
        }
        Boundary.says("mb=mb", 0, 0, 0, 0, 0, 5);
        Boundary.says("mb=mb", 1, 0, 0, 0, 0, 5, 9);
        Boundary.says("ma+mf-mf>=0", 0, 0, 0, 0, 0, 5);
        Boundary.says("1=1+ma-mf", 0, 0, 0, 0, 0, 5);
        // the FACT alone is not true: others of the TEST may be
        Boundary.says("mb=0 or ma=5", 1, 0, 0, 0, 0, 5);
        Boundary.says("ma=5 and not mb=0", 1, 0, 0, 0, 0, 5);
        Boundary.says("ma=5 and mb=0", 0, 0, 0, 0, 0, 5);
        Boundary.says("[mb=0 or mb>=0] or ma=5", 1, 0, 0, 0, 0, 5);
        Boundary.says("not [mb=0 and ma=5]", 1, 0, 0, 0, 0, 5);
    }

    /** What the document tells of texts and yet is no boundary stands here so that each of its parts is tried. */
    private static void others() {
        at(8, "SIGN one of < <= = >= >");
        Boundary.readsTest("1<1", "1<=1", "1=1", "1>=1", "1>1");
        Boundary.refusesTest("1=>1", 2, 0);
        Boundary.refusesTest("1!=1", 1, 0);
        at(8, "SUM: VALUE { (+ or -) VALUE }");
        Boundary.readsTest("1+1=1-1");
        Boundary.refusesTest("1+=1", 2, 0);
        Boundary.refusesTest("1+-1=1", 2, 0);
        Boundary.refusesTest("+1=1", 0, 0);
        Boundary.refusesTest("1*1=1", 1, 0);
    }
}
