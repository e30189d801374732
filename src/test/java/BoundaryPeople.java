/** The boundaries of promises 1 to 4 (CASES) and 37 to 39 (IMAGES, counts). */
final class BoundaryPeople {
    private static final int NONE = Boundary.NONE;

    private BoundaryPeople() {
    }

    static void all() {
        aNewObject();
        asks();
        asksFull();
        mark();
        markBeside();
        told();
        image();
        back();
        backFull();
        count();
    }

    private static void at(int promise, String words) {
        Boundary.at(promise, words);
    }

    private static void due(String call, long got, long want) {
        Boundary.due(call, got, want);
    }

    // ---- 1: a new object

    private static void aNewObject() {
        at(1, "No CASES, no LETTERS, no texts.");
        BecauseOf x = new BecauseOf();
        for (int what = 0; what < 5; what++) due("count(" + what + ")", x.count(what), 0);
        due("told(0, 0)", x.told(0, 0), -2);
        due("turned(NONE, 0)", x.turned(NONE, 0), 0);
        due("takes(0, NONE)", x.takes(0, NONE), NONE);
        due("says(0, 0)", x.says(0, 0), NONE);
        for (int k = 0; k < 4; k++) due("back(" + k + ")", x.back(k), NONE);
        due("the first asks", x.asks(1, 1, 1, 1), 0);
        due("the first letter", x.letter(1, true, false), 0);
        due("the first view", Texts.view(x, "like ma"), 0);
        due("the first rule", Texts.rule(x, "ma = 1"), 0);
        due("the first feed", x.feed(1, 2, 3, 4, 5), 20);
        due("the first image", x.image(0), 1);
        int[] counts = {1, 1, 1, 1, 20};
        for (int what = 0; what < 5; what++) due("count(" + what + ")", x.count(what), counts[what]);
        // nothing of one object stands in another
        BecauseOf y = new BecauseOf();
        for (int what = 0; what < 5; what++) due("count(" + what + ") of another", y.count(what), 0);
        due("back(0) of another", y.back(0), NONE);

        at(1, "`NONE = -1`: None.");
        due("NONE", BecauseOf.NONE, -1);
        due("asks with CAME NONE", y.asks(0, 0, 0, BecauseOf.NONE), 0);
        due("told(0, 3)", y.told(0, 3), BecauseOf.NONE);

        at(1, "An object is used for at most 512 calls after it has been made");
        BecauseOf z = new BecauseOf();
        Boundary.many(z, 200, 1, 2);
        Boundary.send(z, 3, 200, 0);
        for (int i = 0; i < 110; i++) z.count(0);
        due("the 511th call", z.told(199, 2), 2);
        due("the 512th call", z.turned(3, 2), 200);
    }

    // ---- 2: asks

    private static void asks() {
        BecauseOf x = new BecauseOf();
        at(2, "each with a TRAIT (0 or 1)");
        due("asks with TRAIT 0", x.asks(0, 3, 1, 1), 0);
        due("asks with TRAIT 1", x.asks(1, 3, 1, 1), 1);
        Boundary.beside("asks with TRAIT", t -> x.asks(t, 3, 1, 1), 0, 1, NONE);
        due("told(0, 0)", x.told(0, 0), 0);
        due("told(1, 0)", x.told(1, 0), 1);

        at(2, "an OFFICE (0 to 7)");
        due("asks with OFFICE 0", x.asks(0, 0, 1, 1), 2);
        due("asks with OFFICE 7", x.asks(0, 7, 1, 1), 3);
        Boundary.beside("asks with OFFICE", o -> x.asks(0, o, 1, 1), 0, 7, NONE);
        due("told(2, 1)", x.told(2, 1), 0);
        due("told(3, 1)", x.told(3, 1), 7);

        at(2, "a STAGE (0: refused at first, 1: at second sight, 2: let)");
        for (int stage = 0; stage < 3; stage++) {
            due("asks with STAGE " + stage, x.asks(0, 3, stage, 1), 4 + stage);
            due("told(" + (4 + stage) + ", 2)", x.told(4 + stage, 2), stage);
        }
        Boundary.beside("asks with STAGE", s -> x.asks(0, 3, s, 1), 0, 2, NONE);

        at(2, "what CAME of it (0 bad, 1 good, NONE: not known)");
        for (int came = NONE; came < 2; came++) {
            due("asks with CAME " + came, x.asks(0, 3, 1, came), 8 + came);
            due("told(" + (8 + came) + ", 3)", x.told(8 + came, 3), came);
        }
        Boundary.beside("asks with CAME", c -> x.asks(0, 3, 1, c), NONE, 1, NONE);

        at(2, "or something is not as told");
        String before = Boundary.state(x);
        due("asks with nothing as told", x.asks(2, 8, 3, 2), NONE);
        due("asks with all below", x.asks(-1, -1, -1, -2), NONE);
        Boundary.same("refused asks", before, Boundary.state(x));
        due("count(0): no refused one is there", x.count(0), 10);
        due("the next asks", x.asks(0, 0, 0, 0), 10);
    }

    private static void asksFull() {
        at(2, "NONE: there are 200");
        BecauseOf x = new BecauseOf();
        for (int k = 0; k < 198; k++) x.asks(k % 2, k % 8, k % 3, 1);
        due("the 199th asks", x.asks(1, 6, 1, 1), 198);
        due("the 200th asks", x.asks(1, 7, 2, 0), 199);
        due("count(0)", x.count(0), 200);
        due("the 201st asks", x.asks(0, 0, 0, 1), NONE);
        due("the 202nd asks", x.asks(0, 0, 0, 1), NONE);
        due("asks not as told when there are 200", x.asks(2, 0, 0, 1), NONE);
        due("count(0)", x.count(0), 200);

        at(2, "CASES 0 to 199");
        int[] last = {1, 7, 2, 0};
        for (int what = 0; what < 4; what++) due("told(199, " + what + ")", x.told(199, what), last[what]);
        int[] first = {0, 0, 0, 1};
        for (int what = 0; what < 4; what++) due("told(0, " + what + ")", x.told(0, what), first[what]);
        due("told(200, 0)", x.told(200, 0), -2);
        due("mark(199, 5, 9)", x.mark(199, 5, 9), NONE);
        due("mark(200, 0, 9)", x.mark(200, 0, 9), -2);
        due("told(199, 9)", x.told(199, 9), 9);
        // an IMAGE that holds fewer makes room again
        BecauseOf y = new BecauseOf();
        Boundary.many(y, 199, 0, 0);
        y.image(0);
        due("the 200th asks", y.asks(0, 0, 0, 0), 199);
        due("the 201st asks", y.asks(0, 0, 0, 0), NONE);
        y.back(0);
        due("the 200th asks once more", y.asks(1, 0, 0, 0), 199);
        due("the 201st asks once more", y.asks(0, 0, 0, 0), NONE);
        due("told(199, 0)", y.told(199, 0), 1);
    }

    // ---- 3: mark

    private static void mark() {
        at(3, "six MARKS 0 to 5 (0 to 9 each, or missing, as they all are at first)");
        BecauseOf x = new BecauseOf();
        x.asks(0, 0, 0, 0);
        for (int m = 0; m < 6; m++) {
            due("told(0, " + (4 + m) + ") at first", x.told(0, 4 + m), NONE);
            due("mark(0, " + m + ", 0)", x.mark(0, m, 0), NONE);
            due("mark(0, " + m + ", 9)", x.mark(0, m, 9), 0);
            due("told(0, " + (4 + m) + ")", x.told(0, 4 + m), 9);
        }

        at(3, "A MARK of a CASE becomes v (NONE: missing)");
        due("mark(0, 0, NONE)", x.mark(0, 0, NONE), 9);
        due("told(0, 4)", x.told(0, 4), NONE);
        due("mark(0, 5, NONE)", x.mark(0, 5, NONE), 9);
        due("told(0, 9)", x.told(0, 9), NONE);
        due("told(0, 5)", x.told(0, 5), 9);

        at(3, "what it was, NONE too if that was missing");
        due("mark(0, 0, NONE) of one that is missing", x.mark(0, 0, NONE), NONE);
        due("mark(0, 0, 0) of one that is missing", x.mark(0, 0, 0), NONE);
        due("mark(0, 0, 9) of one that is 0", x.mark(0, 0, 9), 0);
        due("mark(0, 0, 9) of one that is 9", x.mark(0, 0, 9), 9);
        due("mark(0, 0, NONE) of one that is 9", x.mark(0, 0, NONE), 9);
        due("told(0, 4)", x.told(0, 4), NONE);
    }

    private static void markBeside() {
        at(3, "-2, and nothing happens, for others");
        due("mark without CASES", new BecauseOf().mark(0, 0, 0), -2);
        BecauseOf x = new BecauseOf();
        for (int k = 0; k < 3; k++) Boundary.ask(x, 0, k, 0, 0, 1, 2, 3, 4, 5, 6);
        String before = Boundary.state(x);
        Boundary.beside("mark of a CASE", k -> x.mark(k, 0, 9), 0, 2, -2);
        Boundary.beside("mark of a MARK", m -> x.mark(1, m, 9), 0, 5, -2);
        Boundary.beside("mark to a value", v -> x.mark(1, 3, v), NONE, 9, -2);
        due("mark with nothing as told", x.mark(3, 6, 10), -2);
        Boundary.same("refused marks", before, Boundary.state(x));
        due("mark of the first, the first", x.mark(0, 0, 9), 1);
        due("mark of the last, the last", x.mark(2, 5, 9), 6);
        due("told(0, 4)", x.told(0, 4), 9);
        due("told(2, 9)", x.told(2, 9), 9);
        due("told(0, 5)", x.told(0, 5), 2);
        due("told(1, 4)", x.told(1, 4), 1);
        due("told(1, 9)", x.told(1, 9), 6);
    }

    // ---- 4: told

    private static void told() {
        at(4, "3: CAME (NONE), 4 to 9: its MARKS (NONE)");
        BecauseOf x = new BecauseOf();
        Boundary.ask(x, 1, 7, 2, NONE, 0, NONE, 9);
        int[] want = {1, 7, 2, NONE, 0, NONE, 9, NONE, NONE, NONE};
        for (int what = 0; what < 10; what++) due("told(0, " + what + ")", x.told(0, what), want[what]);

        at(4, "-2 without it, or for another what");
        due("told without CASES", new BecauseOf().told(0, 0), -2);
        Boundary.beside("told what", what -> x.told(0, what), 0, 9, -2);
        Boundary.beside("told of a CASE", k -> x.told(k, 0), 0, 0, -2);
        due("told(0, 0)", x.told(0, 0), 1);
        due("told(0, 9)", x.told(0, 9), NONE);
        x.asks(0, 0, 0, 0);
        due("told(1, 0)", x.told(1, 0), 0);
        due("told(2, 0)", x.told(2, 0), -2);
    }

    // ---- 37: image

    private static void image() {
        at(37, "An IMAGE is made (also where nothing was told yet): how many CASES");
        BecauseOf x = new BecauseOf();
        due("image(0) of nothing", x.image(0), 0);
        due("back(0) to nothing", x.back(0), 0);
        Boundary.ask(x, 1, 2, 2, 1, 3);
        x.letter(4, true, false);
        due("image(3) of one", x.image(3), 1);
        due("back(0) to nothing", x.back(0), 0);
        due("count(0)", x.count(0), 0);
        due("count(1)", x.count(1), 0);
        due("back(3)", x.back(3), 1);
        due("count(1)", x.count(1), 1);

        at(37, "NONE for another k");
        String before = Boundary.state(x);
        Boundary.beside("image", x::image, 0, 3, NONE);
        Boundary.same("refused images", before, Boundary.state(x));
        due("back(1): none was made by these", x.back(1), NONE);
        due("back(2): none was made by these", x.back(2), NONE);
        due("back(0), as it was", x.back(0), 0);
        due("back(3), as it was", x.back(3), 1);

        at(37, "IMAGES 0 to 3: all CASES with their MARKS, and LETTERS, as they are.");
        BecauseOf y = new BecauseOf();
        for (int k = 0; k < 4; k++) {
            Boundary.ask(y, 0, k, 0, 0, k);
            y.letter(k, true, true);
            due("image(" + k + ")", y.image(k), k + 1);
        }
        for (int k = 3; k >= 0; k--) {
            due("back(" + k + ")", y.back(k), k + 1);
            due("count(1)", y.count(1), k + 1);
            due("told(" + k + ", 4)", y.told(k, 4), k);
            due("told(" + (k + 1) + ", 4)", y.told(k + 1, 4), -2);
        }
        // each as it was, though others stood at its places
        y.back(0);
        Boundary.ask(y, 1, 7, 2, 1, 9);
        y.letter(7, true, false);
        due("back(1)", y.back(1), 2);
        int[] second = {0, 1, 0, 0, 1, NONE};
        for (int what = 0; what < 6; what++) due("told(1, " + what + ")", y.told(1, what), second[what]);
        due("turned(7, 0)", y.turned(7, 0), 0);
        due("turned(1, 0)", y.turned(1, 0), 1);
        due("turned(NONE, 1)", y.turned(NONE, 1), 0);
        due("back(0)", y.back(0), 1);
        // one made again is as all is then, and stays so
        y.mark(0, 0, 9);
        due("image(3) again", y.image(3), 1);
        y.mark(0, 0, 5);
        due("back(3)", y.back(3), 1);
        due("told(0, 4)", y.told(0, 4), 9);
        due("back(2)", y.back(2), 3);
        due("told(0, 4)", y.told(0, 4), 0);
    }

    // ---- 38: back

    private static void back() {
        at(38, "NONE, and nothing happens, if it was never made, or without it");
        BecauseOf x = new BecauseOf();
        Boundary.ask(x, 1, 3, 2, NONE, 4, 5, 6, 7, 8, 9);
        x.letter(3, true, false);
        x.feed(1, 2, 3, 4, 5);
        String before = Boundary.state(x);
        for (int k = 0; k < 4; k++) due("back(" + k + "), never made", x.back(k), NONE);
        Boundary.beside("back", x::back, 0, 3, NONE);
        Boundary.same("refused backs", before, Boundary.state(x));
        due("image(2)", x.image(2), 1);
        for (int k = 0; k < 4; k++) due("back(" + k + ")", x.back(k), k == 2 ? 1 : NONE);
        Boundary.same("back to all as it is", before, Boundary.state(x));

        at(38, "All is as in an IMAGE (VIEWS and RULES stay): how many CASES");
        x.end(0);
        Texts.view(x, "like ma");
        Texts.rule(x, "ma = 4");
        x.mark(0, 0, 0);
        x.asks(0, 0, 0, 0);
        x.letter(0, false, true);
        due("takes(0, NONE)", x.takes(0, NONE), 1);
        due("says(0, 0)", x.says(0, 0), 0);
        due("back(2)", x.back(2), 1);
        int[] counts = {1, 1, 1, 1, 0};
        for (int what = 0; what < 5; what++) due("count(" + what + ")", x.count(what), counts[what]);
        due("takes(0, 0)", x.takes(0, 0), 0);
        due("says(0, 0)", x.says(0, 0), 1);
        due("says(0, 1)", x.says(0, 1), NONE);
        // a CASE asked after it has no MARKS of one that was there before
        x.asks(0, 0, 0, 0);
        x.mark(1, 5, 9);
        x.back(2);
        due("asks", x.asks(0, 0, 0, 0), 1);
        due("told(1, 9)", x.told(1, 9), NONE);
    }

    private static void backFull() {
        at(38, "All is as in an IMAGE (VIEWS and RULES stay): how many CASES");
        BecauseOf x = new BecauseOf();
        x.image(0);
        for (int k = 0; k < 200; k++) x.asks(k % 2, k % 8, k % 3, k % 3 - 1);
        for (int k = 0; k < 200; k++) x.letter(k % 8, k % 5 == 0, k % 3 == 0);
        x.mark(199, 5, 7);
        due("image(3) of 200", x.image(3), 200);
        due("back(0) to nothing", x.back(0), 0);
        due("count(1)", x.count(1), 0);
        due("told(0, 0)", x.told(0, 0), -2);
        // what is told now at the places of the others is no more there behind back(3)
        due("asks in an empty one", x.asks(1, 5, 2, 1), 0);
        due("letter in an empty one", x.letter(5, false, true), 0);
        due("letter in an empty one", x.letter(5, true, false), 1);
        due("back(3) to 200", x.back(3), 200);
        due("count(1)", x.count(1), 200);
        due("asks when there are 200", x.asks(0, 0, 0, 0), NONE);
        due("letter when there are 200", x.letter(0, true, true), NONE);
        int[] first = {0, 0, 0, NONE};
        for (int what = 0; what < 4; what++) due("told(0, " + what + ")", x.told(0, what), first[what]);
        due("told(199, 0)", x.told(199, 0), 1);
        due("told(199, 1)", x.told(199, 1), 7);
        due("told(199, 2)", x.told(199, 2), 1);
        due("told(199, 3)", x.told(199, 3), 0);
        due("told(199, 9)", x.told(199, 9), 7);
        due("told(200, 0)", x.told(200, 0), -2);
        // of 200: by 5 and not by 3: 26, by 3 and not by 5: 53
        due("turned(NONE, 1)", x.turned(NONE, 1), 79);
        due("turned(NONE, 2)", x.turned(NONE, 2), 26);
        due("turned(5, 0)", x.turned(5, 0), 25);
    }

    // ---- 39: count

    private static void count() {
        at(39, "What 0: CASES, 1: LETTERS, 2: VIEWS, 3: RULES, 4: bytes of the TAPE.");
        BecauseOf x = new BecauseOf();
        for (int what = 0; what < 5; what++) due("count(" + what + ") at first", x.count(what), 0);
        Boundary.many(x, 201, 0, 0);
        Boundary.send(x, 0, 201, 0);
        for (int i = 0; i < 9; i++) {
            x.feed(0x6d613d31, 0x20202020, 0x20202020, 0x20202020, 0x20202020);
            x.rule();
        }
        for (int i = 0; i < 8; i++) {
            x.end(0);
            x.feed(0x6c696b65, 0x206d6120, 0x20202020, 0x20202020, 0x20202020);
            x.view();
        }
        for (int i = 0; i < 21; i++) x.feed(1, 2, 3, 4, 5);
        int[] most = {200, 200, 8, 8, 400};
        for (int what = 0; what < 5; what++) due("count(" + what + ") when all is full", x.count(what), most[what]);

        at(39, "NONE for others.");
        BecauseOf y = new BecauseOf();
        due("count(0)", y.count(0), 0);
        due("count(4)", y.count(4), 0);
        Boundary.beside("count", y::count, 0, 4, NONE);
    }
}
