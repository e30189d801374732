import java.util.Random;

/** Random runs of calls (always the same ones): the class must answer as the model does. */
public final class RandomTest {
    private static int wrong = 0;

    private final Random r;
    private final int run;
    private final BecauseOf x = new BecauseOf();
    private final Model y = new Model();
    private final int marksTold;
    private final int offices;
    private final int highest;
    private final int heads;
    private int calls = 0;

    private RandomTest(int run) {
        this.run = run;
        r = new Random(run);
        marksTold = 1 + r.nextInt(6);
        offices = 1 + r.nextInt(8);
        highest = r.nextInt(3) == 0 ? 9 : 1 + r.nextInt(4);
        heads = r.nextInt(9);
    }

    private void due(String call, long got, long want) {
        calls++;
        if (got != want) {
            wrong++;
            if (wrong < 30) {
                System.out.println("run " + run + " call " + calls + ": " + call + " answered " + got + ", the model " + want);
            }
        }
    }

    /** Mostly from a to b, seldom beside. */
    private int near(int a, int b) {
        int n = r.nextInt(40);
        if (n == 0) return a - 1 - r.nextInt(3);
        if (n == 1) return b + 1 + r.nextInt(3);
        if (n == 2 && r.nextInt(4) == 0) return r.nextBoolean() ? Integer.MAX_VALUE : Integer.MIN_VALUE;
        return a + r.nextInt(b - a + 1);
    }

    private void ask() {
        int trait = near(0, 1), office = near(0, offices - 1), stage = near(0, 2), came = near(-1, 1);
        due("asks(" + trait + ", " + office + ", " + stage + ", " + came + ")", x.asks(trait, office, stage, came), y.asks(trait, office, stage, came));
    }

    private void tell() {
        int k = r.nextInt(3) == 0 ? y.people.size() - 1 : near(0, Math.max(0, y.people.size() - 1));
        int m = near(0, marksTold - 1), v = near(r.nextInt(8) == 0 ? -1 : 0, highest);
        due("mark(" + k + ", " + m + ", " + v + ")", x.mark(k, m, v), y.mark(k, m, v));
    }

    private void put(String text) {
        for (int from = 0; from < text.length(); from += 20) {
            int[] n = Texts.five(text, from);
            due("feed(..)", x.feed(n[0], n[1], n[2], n[3], n[4]), y.feed(n));
        }
        int n = r.nextInt(50) == 0 ? near(0, text.length()) : text.length();
        due("end(" + n + ")", x.end(n), y.end(n));
    }

    private void text() {
        boolean view = r.nextBoolean();
        String text = view ? Texts.view(r) : Texts.test(r, 0);
        if (r.nextInt(y.looks.size() + y.tests.size() > 4 ? 2 : 8) == 0) text = Texts.bent(r, text);
        put(text.length() > 400 ? text.substring(0, 400) : text);
        if (r.nextInt(20) == 0) view = !view;
        if (view) due("view() of <" + text + ">", x.view(), y.view());
        else due("rule() of <" + text + ">", x.rule(), y.rule());
    }

    private void look() {
        int v = near(0, Math.max(0, y.looks.size() - 1)), w = near(0, Math.max(0, y.tests.size() - 1));
        int k = near(-1, y.people.size()), what = near(0, 1), m = near(0, 5), trait = near(0, 1);
        int measure = near(0, 3), t = r.nextInt(3) == 0 ? near(0, 1000) : near(0, 200), office = near(-1, offices - 1);
        String args = " with view " + v + ", rule " + w + ", k " + k + ", what " + what + ", mark " + m + ", trait " + trait
                + ", measure " + measure + ", t " + t + ", office " + office;
        switch (r.nextInt(31)) {
            case 0: due("says" + args, x.says(w, k), y.says(w, k)); break;
            case 1: due("takes" + args, x.takes(v, k), y.takes(v, k)); break;
            case 2: due("table" + args, x.table(v, trait, what), y.table(v, trait, what)); break;
            case 3: due("gap" + args, x.gap(v, what), y.gap(v, what)); break;
            case 4: due("luck" + args, x.luck(v, what), y.luck(v, what)); break;
            case 5: case 6: {
                int g = near(-1, 6), of = near(0, 4);
                due("group " + g + " " + of + args, x.group(v, g, of), y.group(v, g, of));
                break;
            }
            case 7: due("lacks" + args, x.lacks(v), y.lacks(v)); break;
            case 8: due("pairs" + args, x.pairs(v, what), y.pairs(v, what)); break;
            case 9: due("next" + args, x.next(v), y.next(v)); break;
            case 10: due("sway" + args, x.sway(v, what), y.sway(v, what)); break;
            case 11: {
                int of = near(0, 2);
                due("turned " + of + args, x.turned(office, of), y.turned(office, of));
                break;
            }
            case 12: due("coin" + args, x.coin(office, what), y.coin(office, what)); break;
            case 13: {
                int g = near(1, 20);
                due("hidden " + g + args, x.hidden(office, g, what), y.hidden(office, g, what));
                break;
            }
            case 14: due("edge" + args, x.edge(office), y.edge(office)); break;
            case 15: case 16: {
                int p = r.nextInt(3) == 0 ? near(0, 999) : near(0, 5), q = r.nextInt(3) == 0 ? near(0, 999) : near(0, 5);
                int of = near(0, 3), c = r.nextBoolean() ? near(-1000, 1000) : near(-10, 10) * 100;
                due("ends " + p + " " + q + " " + of + args, x.ends(v, p, q, of), y.ends(v, p, q, of));
                due("claim " + p + " " + q + " " + c + args, x.claim(v, p, q, c), y.claim(v, p, q, c));
                break;
            }
            case 17: {
                int s = near(0, 1);
                due("sight " + s + args, x.sight(v, s, trait, what), y.sight(v, s, trait, what));
                break;
            }
            case 18: {
                int of = near(0, 3);
                due("even " + of + args, x.even(v, of), y.even(v, of));
                break;
            }
            case 19: due("way" + args, x.way(v, m), y.way(v, m)); break;
            case 20: due("split" + args, x.split(v, measure, what), y.split(v, measure, what)); break;
            case 21: due("holds" + args, x.holds(v, measure, t), y.holds(v, measure, t)); break;
            case 22: {
                int of = near(0, 2);
                due("nearest " + of + args, x.nearest(v, m, measure, t, of), y.nearest(v, m, measure, t, of));
                break;
            }
            case 23: {
                int second = near(0, 3);
                due("clash " + second + args, x.clash(v, m, measure, second, t), y.clash(v, m, measure, second, t));
                break;
            }
            case 24: {
                int n = r.nextInt(3) == 0 ? near(0, 200) : near(0, y.people.size() / 2);
                due("few " + n + args, x.few(v, n), y.few(v, n));
                break;
            }
            case 25: {
                int many = near(0, 2);
                due("best " + many + args, x.best(v, many, what), y.best(v, many, what));
                break;
            }
            case 26: due("own" + args, x.own(v, k, what), y.own(v, k, what)); break;
            case 27: case 28: {
                int of = near(0, 5);
                due("change " + of + args, x.change(k, w, of), y.change(k, w, of));
                break;
            }
            case 29: {
                int of = near(0, 9);
                due("told " + of + args, x.told(k, of), y.told(k, of));
                break;
            }
            default: {
                int of = near(0, 4);
                due("count " + of, x.count(of), y.count(of));
            }
        }
    }

    private void send() {
        int office = near(0, offices - 1);
        boolean first = r.nextInt(8) < heads, second = r.nextInt(8) >= heads;
        due("letter(" + office + ", " + first + ", " + second + ")", x.letter(office, first, second), y.letter(office, first, second));
    }

    private void keep() {
        int k = near(0, 3);
        if (r.nextBoolean()) due("image(" + k + ")", x.image(k), y.image(k));
        else due("back(" + k + ")", x.back(k), y.back(k));
    }

    /** Tells the first MARKS of the youngest CASE, most of them. */
    private void tellYoungest(int many) {
        for (int m = 0; m < many; m++) {
            if (r.nextInt(12) > 0) {
                int k = y.people.size() - 1, v = near(0, highest);
                due("mark(" + k + ", " + m + ", " + v + ")", x.mark(k, m, v), y.mark(k, m, v));
            }
        }
    }

    private void go() {
        int people = r.nextInt(6) == 0 ? 40 + r.nextInt(170) : 4 + r.nextInt(36);
        int many = people > 100 ? r.nextInt(2) : people > 40 ? r.nextInt(4) : r.nextInt(7);
        for (int i = 0; i < people; i++) {
            ask();
            if (calls < 300) tellYoungest(many);
        }
        int texts = 2 + r.nextInt(10);
        for (int i = 0; i < texts && calls < 370; i++) text();
        int letters = r.nextInt(3) == 0 ? r.nextInt(60) : r.nextInt(10);
        for (int i = 0; i < letters && calls < 420; i++) send();
        while (calls < 505) {
            int kind = r.nextInt(60);
            if (kind == 0) ask();
            else if (kind == 1) tell();
            else if (kind == 2 && calls < 490) text();
            else if (kind == 3) send();
            else if (kind == 4) keep();
            else look();
        }
    }

    public static void main(String[] args) {
        int runs = 800;
        int calls = 0;
        for (int run = 0; run < runs; run++) {
            RandomTest test = new RandomTest(run);
            test.go();
            calls += test.calls;
        }
        System.out.println(runs + " random runs, " + calls + " calls, " + wrong + " answers not as due");
        if (wrong > 0) System.exit(1);
    }
}
