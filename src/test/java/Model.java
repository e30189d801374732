import java.math.BigInteger;
import java.util.ArrayList;
import java.util.Arrays;
import java.util.Comparator;
import java.util.LinkedHashMap;
import java.util.List;
import java.util.Map;
import java.util.function.IntPredicate;
import java.util.function.Predicate;

/** The document once more, slow and plain, by other ways than the class: what a random run's answers are held against. */
final class Model {
    static final int NONE = -1;
    private static final List<String> WORDS =
            List.of("ma", "mb", "mc", "md", "me", "mf", "trait", "office", "stage", "came", "known");

    record Person(int trait, int office, int stage, int came, List<Integer> marks) {
        Person with(int mark, int v) {
            List<Integer> more = new ArrayList<>(marks);
            more.set(mark, v);
            return new Person(trait, office, stage, came, more);
        }

        boolean let() {
            return stage == 2;
        }

        int fact(int word) {
            switch (word) {
                case 6: return trait;
                case 7: return office;
                case 8: return stage;
                case 9: return came == 1 ? 1 : 0;
                case 10: return came == NONE ? 0 : 1;
                default: return marks.get(word);
            }
        }
    }

    record Letter(int office, boolean first, boolean second) { }

    record Image(List<Person> people, List<Letter> letters) { }

    record Share(long met, long all) { }

    static final class Fault extends RuntimeException {
        private static final long serialVersionUID = 1;
        final int number;

        Fault(int place, int code) {
            super("fault " + code + " at " + place);
            number = 1 + 8 * place + code;
        }
    }

    static final class Look {
        Predicate<Person> among;
        List<Integer> like = new ArrayList<>();
        Map<Integer, Integer> near = new LinkedHashMap<>();
        Integer within;
    }

    List<Person> people = new ArrayList<>();
    List<Letter> letters = new ArrayList<>();
    final List<Look> looks = new ArrayList<>();
    final List<Predicate<Person>> tests = new ArrayList<>();
    final Image[] images = new Image[4];
    StringBuilder tape = new StringBuilder();

    // ---- the texts

    static final class Text {
        final String s;
        int at = 0;
        int parts = 0;

        Text(String s) {
            this.s = s;
        }

        void blanks() {
            while (at < s.length() && s.charAt(at) == ' ') at++;
        }

        char peek() {
            blanks();
            return at < s.length() ? s.charAt(at) : (char) 0;
        }

        String word() {
            blanks();
            int end = at;
            if (end < s.length() && s.charAt(end) >= 'a' && s.charAt(end) <= 'z') {
                while (end < s.length() && (s.charAt(end) >= 'a' && s.charAt(end) <= 'z'
                        || s.charAt(end) >= '0' && s.charAt(end) <= '9')) end++;
            }
            return s.substring(at, end);
        }

        String digits() {
            blanks();
            int end = at;
            while (end < s.length() && s.charAt(end) >= '0' && s.charAt(end) <= '9') end++;
            return s.substring(at, end);
        }

        boolean take(String word) {
            if (!word().equals(word)) return false;
            at += word.length();
            return true;
        }

        void part() {
            if (++parts > 40) throw new Fault(at, 3);
        }

        Predicate<Person> test(int depth) {
            Predicate<Person> p = part(depth);
            while (take("or")) {
                Predicate<Person> a = p, b = part(depth);
                p = x -> a.test(x) || b.test(x);
            }
            return p;
        }

        Predicate<Person> part(int depth) {
            Predicate<Person> p = fact(depth);
            while (take("and")) {
                Predicate<Person> a = p, b = fact(depth);
                p = x -> a.test(x) && b.test(x);
            }
            return p;
        }

        Predicate<Person> fact(int depth) {
            if (word().equals("not")) {
                if (depth == 10) throw new Fault(at, 2);
                at += 3;
                return fact(depth + 1).negate();
            }
            if (peek() == '[') {
                if (depth == 10) throw new Fault(at, 2);
                at++;
                Predicate<Person> p = test(depth + 1);
                if (peek() != ']') throw new Fault(at, 0);
                at++;
                return p;
            }
            List<int[]> left = sum();
            blanks();
            String sign = s.startsWith("<=", at) || s.startsWith(">=", at) ? s.substring(at, at + 2) : "" + peek();
            if (!List.of("<", "<=", "=", ">=", ">").contains(sign)) throw new Fault(at, 0);
            part();
            at += sign.length();
            List<int[]> right = sum();
            return x -> {
                for (int[] v : left) if (v[1] >= 0 && v[1] < 6 && x.marks().get(v[1]) == NONE) return false;
                for (int[] v : right) if (v[1] >= 0 && v[1] < 6 && x.marks().get(v[1]) == NONE) return false;
                int d = Integer.compare(worth(left, x), worth(right, x));
                return d < 0 ? sign.startsWith("<") : d > 0 ? sign.startsWith(">") : sign.endsWith("=");
            };
        }

        static int worth(List<int[]> sum, Person x) {
            int all = 0;
            for (int[] v : sum) all += v[0] * (v[1] < 0 ? v[2] : x.fact(v[1]));
            return all;
        }

        /** Each value as 1 or -1, its WORD or NONE, its NUMBER. */
        List<int[]> sum() {
            List<int[]> all = new ArrayList<>();
            int sign = 1;
            while (true) {
                String digits = digits(), word = word();
                if (digits.isEmpty() && !WORDS.contains(word)) throw new Fault(at, 0);
                if (digits.length() > 4) throw new Fault(at, 1);
                part();
                if (digits.isEmpty()) all.add(new int[] {sign, WORDS.indexOf(word), 0});
                else all.add(new int[] {sign, NONE, Integer.parseInt(digits)});
                at += digits.length() + word.length();
                char c = peek();
                if (c != '+' && c != '-') return all;
                sign = c == '+' ? 1 : -1;
                at++;
            }
        }

        int number(int least, int most) {
            String digits = digits();
            if (digits.isEmpty()) throw new Fault(at, 0);
            if (digits.length() > 4) throw new Fault(at, 1);
            int n = Integer.parseInt(digits);
            if (n < least || n > most) throw new Fault(at, 1);
            at += digits.length();
            return n;
        }

        int mark(Look look) {
            int m = WORDS.indexOf(word());
            if (m < 0 || m > 5) throw new Fault(at, 0);
            if (look.like.contains(m) || look.near.containsKey(m)) throw new Fault(at, 4);
            at += 2;
            return m;
        }

        Look look() {
            Look look = new Look();
            do {
                blanks();
                int start = at;
                if (take("among")) {
                    if (look.among != null) throw new Fault(start, 4);
                    parts = 0;
                    look.among = test(0);
                } else if (take("like")) {
                    look.like.add(mark(look));
                } else if (take("near")) {
                    int m = mark(look);
                    look.near.put(m, number(1, 99));
                } else if (take("within")) {
                    if (look.within != null) throw new Fault(start, 4);
                    look.within = number(0, 999);
                } else {
                    throw new Fault(start, 0);
                }
            } while (peek() == ';' && at++ < s.length());
            if (at < s.length()) throw new Fault(at, 0);
            return look;
        }
    }

    int view() {
        if (looks.size() == 8) return NONE;
        String s = tape.toString();
        tape = new StringBuilder();
        try {
            looks.add(new Text(s).look());
            return looks.size() - 1;
        } catch (Fault f) {
            return -2 - f.number;
        }
    }

    int rule() {
        if (tests.size() == 8) return NONE;
        String s = tape.toString();
        tape = new StringBuilder();
        try {
            Text text = new Text(s);
            Predicate<Person> p = text.test(0);
            text.blanks();
            if (text.at < s.length()) throw new Fault(text.at, 0);
            tests.add(p);
            return tests.size() - 1;
        } catch (Fault f) {
            return -2 - f.number;
        }
    }

    int feed(int... five) {
        if (tape.length() + 20 > 400) return NONE;
        for (int n : five) {
            for (int shift = 24; shift >= 0; shift -= 8) tape.append((char) (n >>> shift & 255));
        }
        return tape.length();
    }

    int end(int n) {
        if (n < 0 || n > tape.length()) return NONE;
        tape.setLength(n);
        return n;
    }

    // ---- the people

    static boolean in(int n, int least, int most) {
        return least <= n && n <= most;
    }

    boolean has(int k) {
        return in(k, 0, people.size() - 1);
    }

    int asks(int trait, int office, int stage, int came) {
        if (people.size() == 200 || !in(trait, 0, 1) || !in(office, 0, 7) || !in(stage, 0, 2) || !in(came, -1, 1)) return NONE;
        people.add(new Person(trait, office, stage, came, List.of(NONE, NONE, NONE, NONE, NONE, NONE)));
        return people.size() - 1;
    }

    int mark(int k, int mark, int v) {
        if (!has(k) || !in(mark, 0, 5) || !in(v, -1, 9)) return -2;
        int was = people.get(k).marks().get(mark);
        people.set(k, people.get(k).with(mark, v));
        return was;
    }

    int told(int k, int what) {
        if (!has(k) || !in(what, 0, 9)) return -2;
        Person p = people.get(k);
        List<Integer> all = new ArrayList<>(List.of(p.trait(), p.office(), p.stage(), p.came()));
        all.addAll(p.marks());
        return all.get(what);
    }

    int says(int rule, int k) {
        if (!in(rule, 0, tests.size() - 1) || !has(k)) return NONE;
        return tests.get(rule).test(people.get(k)) ? 1 : 0;
    }

    boolean look(int view) {
        return in(view, 0, looks.size() - 1);
    }

    List<Integer> takenBy(Look look, List<Integer> like) {
        List<Integer> all = new ArrayList<>();
        for (int k = 0; k < people.size(); k++) {
            Person p = people.get(k);
            if ((look.among == null || look.among.test(p)) && like.stream().noneMatch(m -> p.marks().get(m) == NONE)) all.add(k);
        }
        return all;
    }

    List<Integer> taken(int view) {
        return takenBy(looks.get(view), looks.get(view).like);
    }

    long some(List<Integer> of, Predicate<Person> p) {
        return of.stream().filter(k -> p.test(people.get(k))).count();
    }

    Share share(List<Integer> of, int trait, Predicate<Person> all, Predicate<Person> met) {
        return new Share(some(of, p -> p.trait() == trait && all.test(p) && met.test(p)),
                some(of, p -> p.trait() == trait && all.test(p)));
    }

    static long[] less(Share a, Share b) {
        if (a.all() == 0 || b.all() == 0) return new long[] {0, 0};
        BigInteger above = BigInteger.valueOf(a.met() * b.all() - b.met() * a.all());
        BigInteger below = BigInteger.valueOf(a.all() * b.all());
        BigInteger g = above.gcd(below);
        return new long[] {above.divide(g).longValue(), below.divide(g).longValue()};
    }

    int takes(int view, int k) {
        if (!look(view)) return NONE;
        List<Integer> t = taken(view);
        return k == NONE ? t.size() : in(k, 0, t.size() - 1) ? t.get(k) : NONE;
    }

    int table(int view, int trait, int what) {
        if (!look(view) || !in(trait, 0, 1) || !in(what, 0, 1)) return NONE;
        return (int) some(taken(view), p -> p.trait() == trait && (what == 0 || p.let()));
    }

    int gap(int view, int part) {
        return split(view, 0, part);
    }

    static BigInteger choose(int n, int k) {
        BigInteger[] row = new BigInteger[n + 1];
        Arrays.fill(row, BigInteger.ZERO);
        row[0] = BigInteger.ONE;
        for (int i = 0; i < n; i++) for (int j = n; j > 0; j--) row[j] = row[j].add(row[j - 1]);
        return in(k, 0, n) ? row[k] : BigInteger.ZERO;
    }

    long luck(int view, int part) {
        if (!look(view) || !in(part, 0, 1) || taken(view).size() > 60) return NONE;
        List<Integer> t = taken(view);
        int let = (int) some(t, Person::let);
        int ones = (int) some(t, p -> p.trait() == 1);
        int onesLet = (int) some(t, p -> p.trait() == 1 && p.let());
        BigInteger all = BigInteger.ZERO;
        for (int i = 0; i <= (part == 1 ? t.size() : onesLet); i++) {
            all = all.add(choose(ones, i).multiply(choose(t.size() - ones, let - i)));
        }
        return all.longValueExact();
    }

    // ---- groups

    List<List<Integer>> groups(List<Integer> taken, List<Integer> like) {
        Map<List<Integer>, List<Integer>> all = new LinkedHashMap<>();
        for (int k : taken) {
            List<Integer> key = like.stream().map(m -> people.get(k).marks().get(m)).toList();
            all.computeIfAbsent(key, x -> new ArrayList<>()).add(k);
        }
        return new ArrayList<>(all.values());
    }

    Integer would(List<Integer> group) {
        Share zero = share(group, 0, p -> true, Person::let);
        long ones = some(group, p -> p.trait() == 1);
        if (zero.all() == 0 || ones == 0) return null;
        return (int) Math.floorDiv(1000 * ones * zero.met(), zero.all());
    }

    int lack(List<Integer> taken, List<Integer> like) {
        int all = 0;
        for (List<Integer> g : groups(taken, like)) {
            if (would(g) != null) all += would(g) - 1000 * (int) some(g, p -> p.trait() == 1 && p.let());
        }
        return all;
    }

    int group(int view, int g, int what) {
        if (!look(view)) return NONE;
        List<List<Integer>> all = groups(taken(view), looks.get(view).like);
        if (g == NONE) return all.size();
        if (!in(g, 0, all.size() - 1) || !in(what, 0, 4)) return NONE;
        List<Integer> group = all.get(g);
        if (what == 4) return would(group) == null ? NONE : would(group);
        return (int) some(group, p -> p.trait() == what / 2 && (what % 2 == 0 || p.let()));
    }

    int lacks(int view) {
        return look(view) ? lack(taken(view), looks.get(view).like) : -1000000;
    }

    // ---- pairs, by trying every way with a memory of what is used

    int pairs(int view, int what) {
        if (!look(view) || !in(what, 0, 1)) return NONE;
        Look look = looks.get(view);
        List<Integer> zeros = taken(view).stream().filter(k -> people.get(k).trait() == 0).limit(10).toList();
        List<Integer> ones = taken(view).stream().filter(k -> people.get(k).trait() == 1).limit(10).toList();
        // best[set]: the least sum with just these of TRAIT 1 in pairs
        long[] best = new long[1 << ones.size()];
        Arrays.fill(best, Long.MAX_VALUE / 2);
        best[0] = 0;
        for (int z : zeros) {
            long[] more = best.clone();
            for (int set = 0; set < best.length; set++) {
                for (int i = 0; i < ones.size(); i++) {
                    int d = distance(look, people.get(z), people.get(ones.get(i)));
                    if ((set >> i & 1) == 0 && d >= 0) {
                        more[set | 1 << i] = Math.min(more[set | 1 << i], best[set] + d);
                    }
                }
            }
            best = more;
        }
        int most = 0;
        long least = 0;
        for (int set = 0; set < best.length; set++) {
            int many = Integer.bitCount(set);
            if (best[set] < Long.MAX_VALUE / 4 && (many > most || many == most && best[set] < least)) {
                most = many;
                least = best[set];
            }
        }
        return what == 0 ? most : (int) least;
    }

    static int distance(Look look, Person a, Person b) {
        for (int m : look.like) if (!a.marks().get(m).equals(b.marks().get(m))) return NONE;
        int d = 0;
        for (var e : look.near.entrySet()) {
            int x = a.marks().get(e.getKey()), y = b.marks().get(e.getKey());
            if (x == NONE || y == NONE) return NONE;
            d += e.getValue() * Math.abs(x - y);
        }
        return d <= (look.within == null ? 999 : look.within) ? d : NONE;
    }

    int next(int view) {
        if (!look(view)) return NONE;
        Look look = looks.get(view);
        int best = -2;
        int least = Integer.MAX_VALUE;
        for (int m = 5; m >= 0; m--) {
            if (look.like.contains(m)) continue;
            List<Integer> like = new ArrayList<>(look.like);
            like.add(m);
            List<Integer> taken = takenBy(look, like);
            if (groups(taken, like).stream().allMatch(g -> would(g) == null)) continue;
            int lack = Math.abs(lack(taken, like));
            if (lack <= least) {
                least = lack;
                best = m;
            }
        }
        return best;
    }

    int sway(int view, int what) {
        if (!look(view) || !in(what, 0, 1)) return NONE;
        int best = NONE;
        int least = -1000000;
        for (int k : taken(view)) {
            List<Integer> rest = new ArrayList<>(taken(view));
            rest.remove((Integer) k);
            int lack = lack(rest, looks.get(view).like);
            if (best == NONE || Math.abs(lack) < Math.abs(least)) {
                best = k;
                least = lack;
            }
        }
        return what == 0 ? best : least;
    }

    // ---- letters

    int letter(int office, boolean first, boolean second) {
        if (letters.size() == 200 || !in(office, 0, 7)) return NONE;
        letters.add(new Letter(office, first, second));
        return letters.size() - 1;
    }

    int turned(int office, int what) {
        if (!in(office, -1, 7) || !in(what, 0, 2)) return NONE;
        return (int) letters.stream().filter(l -> office == NONE || l.office() == office)
                .filter(l -> what == 0 || l.first() != l.second())
                .filter(l -> what < 2 || l.first()).count();
    }

    BigInteger weighed(int n, int h, int g) {
        BigInteger all = BigInteger.ZERO;
        for (int k = h; k <= n; k++) all = all.add(choose(n, k).multiply(BigInteger.valueOf(g).pow(k)));
        return all;
    }

    long coin(int office, int part) {
        if (!in(office, -1, 7) || !in(part, 0, 1) || turned(office, 1) > 60) return NONE;
        return weighed(turned(office, 1), part == 0 ? turned(office, 2) : 0, 1).longValueExact();
    }

    long hidden(int office, int g, int part) {
        if (!in(office, -1, 7) || !in(g, 1, 20) || !in(part, 0, 1) || turned(office, 1) > 14) return NONE;
        return weighed(turned(office, 1), part == 0 ? turned(office, 2) : 0, g).longValueExact();
    }

    int edge(int office) {
        if (!in(office, -1, 7) || turned(office, 1) > 14) return NONE;
        int n = turned(office, 1);
        for (int g = 1; g <= 20; g++) {
            if (weighed(n, turned(office, 2), g).multiply(BigInteger.valueOf(20))
                    .compareTo(BigInteger.valueOf(1 + g).pow(n)) >= 0) return g;
        }
        return -2;
    }

    // ---- those who never asked

    long[] end(int view, int p, int q, boolean least) {
        Share a = share(taken(view), 0, x -> true, Person::let);
        Share b = share(taken(view), 1, x -> true, Person::let);
        return less(new Share(a.met() + (least ? 0 : p), a.all() + p), new Share(b.met() + (least ? q : 0), b.all() + q));
    }

    int ends(int view, int p, int q, int what) {
        if (!look(view) || !in(p, 0, 999) || !in(q, 0, 999) || !in(what, 0, 3)) return -2000000;
        return (int) end(view, p, q, what < 2)[what % 2];
    }

    int claim(int view, int p, int q, int thousandths) {
        if (!look(view) || !in(p, 0, 999) || !in(q, 0, 999) || !in(thousandths, -1000, 1000)) return NONE;
        long[] least = end(view, p, q, true), most = end(view, p, q, false);
        if (least[1] == 0) return NONE;
        if (1000 * least[0] >= thousandths * least[1]) return 2;
        return 1000 * most[0] < thousandths * most[1] ? 0 : 1;
    }

    // ---- sights

    Share pass(int view, int sight, int trait, IntPredicate office) {
        return share(taken(view), trait, p -> office.test(p.office()) && (sight != 1 || p.stage() >= 1),
                p -> sight == 0 ? p.stage() >= 1 : p.let());
    }

    int sight(int view, int sight, int trait, int what) {
        if (!look(view) || !in(sight, 0, 1) || !in(trait, 0, 1) || !in(what, 0, 1)) return NONE;
        Share s = pass(view, sight, trait, o -> true);
        return (int) (what == 0 ? s.all() : s.met());
    }

    int even(int view, int what) {
        if (!look(view) || !in(what, 0, 3)) return NONE;
        if (what < 3) return less(pass(view, what, 0, o -> true), pass(view, what, 1, o -> true))[0] == 0 ? 1 : 0;
        for (int office = 0; office < 8; office++) {
            int here = office;
            if (less(pass(view, 2, 0, o -> o == here), pass(view, 2, 1, o -> o == here))[0] != 0) return 0;
        }
        return 1;
    }

    int way(int view, int mark) {
        if (!look(view) || !in(mark, 0, 5)) return -10000000;
        List<Integer> t = taken(view);
        long zeros = some(t, p -> p.trait() == 0 && p.marks().get(mark) != NONE);
        long ones = some(t, p -> p.trait() == 1 && p.marks().get(mark) != NONE);
        if (zeros == 0 || ones == 0) return 0;
        long all = 0;
        for (int v = 0; v < 10; v++) {
            int here = v;
            Share one = share(t, 1, p -> p.marks().get(mark) == here, Person::let);
            long zero = some(t, p -> p.trait() == 0 && p.marks().get(mark) == here);
            if (one.all() > 0) {
                long d = Math.floorDiv(1000000 * zero, zeros) - Math.floorDiv(1000000 * one.all(), ones);
                all += Long.signum(d) * Math.floorDiv(Math.abs(d) * one.met(), one.all());
            }
        }
        return (int) all;
    }

    // ---- measures

    long[] splitOf(List<Integer> of, int measure, Predicate<Person> let) {
        List<Share> both = new ArrayList<>();
        for (int trait = 0; trait < 2; trait++) {
            switch (measure) {
                case 0: both.add(share(of, trait, p -> true, let)); break;
                case 1: both.add(share(of, trait, p -> p.came() == 1, let)); break;
                case 2: both.add(share(of, trait, p -> p.came() == 0, let)); break;
                default: both.add(share(of, trait, p -> let.test(p) && p.came() != NONE, p -> p.came() == 1));
            }
        }
        return less(both.get(0), both.get(1));
    }

    static boolean within(long[] f, int t) {
        return f[1] > 0 && 1000 * Math.abs(f[0]) <= t * f[1];
    }

    int split(int view, int measure, int part) {
        if (!look(view) || !in(measure, 0, 3) || !in(part, 0, 1)) return NONE;
        return (int) splitOf(taken(view), measure, Person::let)[part];
    }

    int holds(int view, int measure, int t) {
        if (!look(view) || !in(measure, 0, 3) || !in(t, 0, 1000)) return NONE;
        return within(splitOf(taken(view), measure, Person::let), t) ? 1 : 0;
    }

    List<Integer> judged(int view, int mark) {
        return taken(view).stream().filter(k -> people.get(k).marks().get(mark) != NONE && people.get(k).came() != NONE).toList();
    }

    static Predicate<Person> bars(int mark, int c0, int c1) {
        return p -> p.marks().get(mark) >= (p.trait() == 0 ? c0 : c1);
    }

    int nearest(int view, int mark, int measure, int t, int what) {
        if (!look(view) || !in(mark, 0, 5) || !in(measure, 0, 3) || !in(t, 0, 1000) || !in(what, 0, 2)) return NONE;
        List<Integer> of = judged(view, mark);
        int[] best = {-2, -2, -2};
        for (int c0 = 10; c0 >= 0; c0--) {
            for (int c1 = 10; c1 >= 0; c1--) {
                Predicate<Person> let = bars(mark, c0, c1);
                int right = (int) some(of, p -> let.test(p) == (p.came() == 1));
                if (within(splitOf(of, measure, let), t) && right >= best[2]) best = new int[] {c0, c1, right};
            }
        }
        return best[what];
    }

    int clash(int view, int mark, int first, int second, int t) {
        if (!look(view) || !in(mark, 0, 5) || !in(first, 0, 3) || !in(second, 0, 3) || first == second || !in(t, 0, 1000)) return NONE;
        List<Integer> of = judged(view, mark);
        int all = 0;
        for (int c0 = 0; c0 <= 10; c0++) {
            for (int c1 = 0; c1 <= 10; c1++) {
                Predicate<Person> let = bars(mark, c0, c1);
                if (within(splitOf(of, first, let), t) && within(splitOf(of, second, let), t)) all++;
            }
        }
        return all;
    }

    // ---- short rules

    /** Each rule of so many parts as {WRONG, 1 if it names the TRAIT}. */
    List<int[]> shortRules(int view, int many) {
        List<Integer> t = taken(view);
        List<Predicate<Person>> parts = new ArrayList<>();
        for (int trait = 0; trait < 2; trait++) {
            int is = trait;
            parts.add(p -> p.trait() == is);
        }
        for (int m = 0; m < 6; m++) {
            int mark = m;
            for (int v = 0; v < 10; v++) {
                int bar = v;
                if (v > 0) parts.add(p -> p.marks().get(mark) != NONE && p.marks().get(mark) >= bar);
                if (v < 9) parts.add(p -> p.marks().get(mark) != NONE && p.marks().get(mark) <= bar);
            }
        }
        boolean[][] said = new boolean[parts.size()][t.size()];
        for (int i = 0; i < said.length; i++) for (int j = 0; j < t.size(); j++) said[i][j] = parts.get(i).test(people.get(t.get(j)));
        List<int[]> all = new ArrayList<>();
        for (int a = 0; a < (many == 0 ? 1 : parts.size()); a++) {
            for (int b = many == 2 ? a + 1 : 0; b < (many == 2 ? parts.size() : 1); b++) {
                int wrong = 0;
                for (int j = 0; j < t.size(); j++) {
                    boolean let = (many < 1 || said[a][j]) && (many < 2 || said[b][j]);
                    if (let != people.get(t.get(j)).let()) wrong++;
                }
                all.add(new int[] {wrong, many > 0 && a < 2 || many > 1 && b < 2 ? 1 : 0});
            }
        }
        return all;
    }

    int best(int view, int many, int what) {
        if (!look(view) || !in(many, 0, 2) || !in(what, 0, 1)) return NONE;
        List<int[]> all = shortRules(view, many);
        int least = all.stream().mapToInt(r -> r[0]).min().getAsInt();
        if (what == 0) return least;
        List<int[]> best = all.stream().filter(r -> r[0] == least).toList();
        return best.stream().allMatch(r -> r[1] == 1) ? 2 : best.stream().anyMatch(r -> r[1] == 1) ? 1 : 0;
    }

    int few(int view, int n) {
        if (!look(view) || !in(n, 0, 200)) return NONE;
        for (int many = 0; many <= 2; many++) {
            if (shortRules(view, many).stream().anyMatch(r -> r[0] <= n)) return many;
        }
        return -2;
    }

    // ---- one's own

    int own(int view, int k, int what) {
        if (!look(view) || !has(k) || !in(what, 0, 1)) return NONE;
        List<Integer> like = looks.get(view).like;
        if (like.stream().anyMatch(m -> people.get(k).marks().get(m) == NONE)) return NONE;
        return (int) taken(view).stream().filter(o -> o != k && (what == 0 || people.get(o).let()))
                .filter(o -> like.stream().allMatch(m -> people.get(o).marks().get(m).equals(people.get(k).marks().get(m)))).count();
    }

    int change(int k, int rule, int what) {
        if (!has(k) || !in(rule, 0, tests.size() - 1) || !in(what, 0, 5)) return NONE;
        Person p = people.get(k);
        // steps, how many MARKS, the first, its value, the second, its value
        List<int[]> all = new ArrayList<>();
        if (tests.get(rule).test(p)) all.add(new int[] {0, 0, -1, -1, -1, -1});
        for (int a = 0; a < 6; a++) {
            for (int v = 0; v < 10; v++) {
                if (p.marks().get(a) == v) continue;
                Person one = p.with(a, v);
                if (tests.get(rule).test(one)) all.add(new int[] {steps(p, a, v), 1, a, v, -1, -1});
                for (int b = a + 1; b < 6; b++) {
                    for (int w = 0; w < 10; w++) {
                        if (p.marks().get(b) == w) continue;
                        if (tests.get(rule).test(one.with(b, w))) all.add(new int[] {steps(p, a, v) + steps(p, b, w), 2, a, v, b, w});
                    }
                }
            }
        }
        return all.stream().min(Comparator.<int[]>comparingInt(c -> c[0]).thenComparingInt(c -> c[1]).thenComparingInt(c -> c[2])
                .thenComparingInt(c -> c[3]).thenComparingInt(c -> c[4]).thenComparingInt(c -> c[5]))
                .map(c -> c[what]).orElse(-2);
    }

    static int steps(Person p, int mark, int v) {
        return p.marks().get(mark) == NONE ? 10 : Math.abs(v - p.marks().get(mark));
    }

    // ---- images

    int image(int k) {
        if (!in(k, 0, 3)) return NONE;
        images[k] = new Image(List.copyOf(people), List.copyOf(letters));
        return people.size();
    }

    int back(int k) {
        if (!in(k, 0, 3) || images[k] == null) return NONE;
        people = new ArrayList<>(images[k].people());
        letters = new ArrayList<>(images[k].letters());
        return people.size();
    }

    int count(int what) {
        if (!in(what, 0, 4)) return NONE;
        return new int[] {people.size(), letters.size(), looks.size(), tests.size(), tape.length()}[what];
    }
}
