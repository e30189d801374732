import java.util.Arrays;

/** Was it because of that? What each call answers stands in ../shared/DOC.md. */
public final class BecauseOf {

    public static final int NONE = -1;

    private static final int MOST_CASES = 200;
    private static final int MOST_LETTERS = 200;
    private static final int MOST_TEXTS = 8;
    private static final int MOST_BYTES = 400;
    private static final int IMAGES = 4;
    private static final int MARKS = 6;
    private static final int OFFICES = 8;
    private static final int MEASURES = 4;
    private static final int BARS = 11;
    private static final int SEEN = 1;
    private static final int LET = 2;
    private static final int THOUSAND = 1000;
    private static final int MILLION = 1000000;

    /** The values that the WORDS of a TEST stand for: the MARKS first. */
    private static final int WORDS = 11;
    private static final int TRAIT_WORD = 6;
    private static final int OFFICE_WORD = 7;
    private static final int STAGE_WORD = 8;
    private static final int CAME_WORD = 9;
    private static final int KNOWN_WORD = 10;

    private final Cases cases = new Cases();
    private final Letters letters = new Letters();
    private final Cases[] caseImages = new Cases[IMAGES];
    private final Letters[] letterImages = new Letters[IMAGES];
    private final Reader tape = new Reader();
    private final View[] views = new View[MOST_TEXTS];
    private final Test[] rules = new Test[MOST_TEXTS];
    private int viewCount;
    private int ruleCount;

    /** These are filled anew by each call that needs them. */
    private final Taken taken = new Taken(cases);
    private final Fraction fraction = new Fraction();
    private final Pairing pairing = new Pairing();
    private final Bars bars = new Bars();
    private final ShortRules shortRules = new ShortRules();
    private final Change nearestChange = new Change();
    private final int[] row = new int[WORDS];

    public BecauseOf() {
    }

    // ---- CASES

    public int asks(int trait, int office, int stage, int came) {
        if (!isTrait(trait) || !isOffice(office) || stage < 0 || stage > LET || came < NONE || came > 1) {
            return NONE;
        }
        return cases.add(trait, office, stage, came);
    }

    public int mark(int k, int mark, int v) {
        if (!cases.has(k) || !isMark(mark) || v < NONE || v > 9) {
            return -2;
        }
        int before = cases.markOf(k, mark);
        cases.setMark(k, mark, v);
        return before;
    }

    public int told(int k, int what) {
        if (!cases.has(k)) {
            return -2;
        }
        switch (what) {
            case 0:
                return cases.traitOf(k);
            case 1:
                return cases.officeOf(k);
            case 2:
                return cases.stageOf(k);
            case 3:
                return cases.cameOf(k);
            default:
                return what >= 4 && isMark(what - 4) ? cases.markOf(k, what - 4) : -2;
        }
    }

    // ---- The TAPE and its texts

    public int feed(int a, int b, int c, int d, int e) {
        if (tape.length > MOST_BYTES - 20) {
            return NONE;
        }
        tape.append(a);
        tape.append(b);
        tape.append(c);
        tape.append(d);
        tape.append(e);
        return tape.length;
    }

    public int end(int n) {
        if (n < 0 || n > tape.length) {
            return NONE;
        }
        tape.length = n;
        return n;
    }

    public int view() {
        if (viewCount >= MOST_TEXTS) {
            return NONE;
        }
        View read = tape.readView();
        tape.length = 0;
        if (read == null) {
            return -2 - tape.fault;
        }
        views[viewCount] = read;
        viewCount++;
        return viewCount - 1;
    }

    public int rule() {
        if (ruleCount >= MOST_TEXTS) {
            return NONE;
        }
        Test read = tape.readRule();
        tape.length = 0;
        if (read == null) {
            return -2 - tape.fault;
        }
        rules[ruleCount] = read;
        ruleCount++;
        return ruleCount - 1;
    }

    public int says(int rule, int k) {
        Test test = ruleAt(rule);
        if (test == null || !cases.has(k)) {
            return NONE;
        }
        cases.writeRow(k, row);
        return test.isTrue(row) ? 1 : 0;
    }

    // ---- II. What a VIEW takes

    public int takes(int view, int k) {
        if (!lookBy(view)) {
            return NONE;
        }
        return k == NONE ? taken.size : taken.caseAt(k);
    }

    public int table(int view, int trait, int what) {
        if (!isTrait(trait) || !isPart(what) || !lookBy(view)) {
            return NONE;
        }
        return taken.atLeast(what == 0 ? 0 : LET, trait, NONE);
    }

    public int gap(int view, int part) {
        if (!isPart(part) || !lookBy(view)) {
            return NONE;
        }
        setGap(0, 0, 0, 0);
        return fraction.part(part);
    }

    public long luck(int view, int part) {
        if (!isPart(part) || !lookBy(view) || taken.size > 60) {
            return NONE;
        }
        int ones = taken.atLeast(0, 1, NONE);
        int onesLet = taken.atLeast(LET, 1, NONE);
        int let = onesLet + taken.atLeast(LET, 0, NONE);
        if (part == 1) {
            return choose(taken.size, let);
        }
        long ways = 0;
        for (int i = 0; i <= onesLet; i++) {
            ways += choose(ones, i) * choose(taken.size - ones, let - i);
        }
        return ways;
    }

    public int group(int view, int g, int what) {
        if (!lookBy(view)) {
            return NONE;
        }
        taken.sort();
        if (g == NONE) {
            return taken.groups;
        }
        if (g < 0 || g >= taken.groups || what < 0 || what > 4) {
            return NONE;
        }
        return what == 4 ? taken.wouldOf(g) : taken.tallyOf(g, what);
    }

    public int lacks(int view) {
        if (!lookBy(view)) {
            return -MILLION;
        }
        taken.sort();
        return taken.lackSum();
    }

    public int pairs(int view, int what) {
        View look = viewAt(view);
        if (look == null || !isPart(what) || !lookBy(view)) {
            return NONE;
        }
        pairing.pair(cases, look, taken);
        return what == 0 ? pairing.found : pairing.sum;
    }

    public int next(int view) {
        View look = viewAt(view);
        if (look == null) {
            return NONE;
        }
        int best = -2;
        int least = 0;
        for (int m = 0; m < MARKS; m++) {
            if ((look.like >> m & 1) == 0) {
                taken.gather(look, look.like | 1 << m);
                taken.sort();
                int lack = Math.abs(taken.lackSum());
                if (taken.hasMixedGroup() && (best < 0 || lack < least)) {
                    best = m;
                    least = lack;
                }
            }
        }
        return best;
    }

    public int sway(int view, int what) {
        if (!isPart(what) || !lookBy(view)) {
            return NONE;
        }
        taken.sort();
        int whole = taken.lackSum();
        int best = NONE;
        int least = -MILLION;
        for (int i = 0; i < taken.size; i++) {
            int lack = whole + taken.lackChange(i);
            if (best == NONE || Math.abs(lack) < Math.abs(least)) {
                best = taken.caseAt(i);
                least = lack;
            }
        }
        return what == 0 ? best : least;
    }

    // ---- III. LETTERS, and those who never asked

    public int letter(int office, boolean first, boolean second) {
        return isOffice(office) ? letters.add(office, first, second) : NONE;
    }

    public int turned(int office, int what) {
        if (!isOfficeOrAll(office)) {
            return NONE;
        }
        switch (what) {
            case 0:
                return letters.sentTo(office);
            case 1:
                return letters.turnedOf(office);
            case 2:
                return letters.headsOf(office);
            default:
                return NONE;
        }
    }

    public long coin(int office, int part) {
        if (!isOfficeOrAll(office) || !isPart(part) || letters.turnedOf(office) > 60) {
            return NONE;
        }
        int n = letters.turnedOf(office);
        return part == 0 ? heads(n, letters.headsOf(office), 1) : power(2, n);
    }

    public long hidden(int office, int g, int part) {
        if (!isOfficeOrAll(office) || g < 1 || g > 20 || !isPart(part) || letters.turnedOf(office) > 14) {
            return NONE;
        }
        int n = letters.turnedOf(office);
        return part == 0 ? heads(n, letters.headsOf(office), g) : power(1 + g, n);
    }

    public int edge(int office) {
        if (!isOfficeOrAll(office) || letters.turnedOf(office) > 14) {
            return NONE;
        }
        int n = letters.turnedOf(office);
        int h = letters.headsOf(office);
        for (int g = 1; g <= 20; g++) {
            // twenty times the ways would not fit a long: the whole is cut instead
            long twentieth = (power(1 + g, n) + 19) / 20;
            if (heads(n, h, g) >= twentieth) {
                return g;
            }
        }
        return -2;
    }

    public int ends(int view, int p, int q, int what) {
        if (what < 0 || what > 3 || !areMore(p, q) || !lookBy(view)) {
            return -2 * MILLION;
        }
        if (what < 2) {
            setGap(0, p, q, q);
        } else {
            setGap(p, p, 0, q);
        }
        return fraction.part(what % 2);
    }

    public int claim(int view, int p, int q, int thousandths) {
        if (thousandths < -THOUSAND || thousandths > THOUSAND || !areMore(p, q) || !lookBy(view)) {
            return NONE;
        }
        setGap(0, p, q, q);
        if (fraction.below == 0) {
            return NONE;
        }
        if (fraction.isAtLeast(thousandths)) {
            return 2;
        }
        setGap(p, p, 0, q);
        return fraction.isAtLeast(thousandths) ? 1 : 0;
    }

    // ---- IV. Sights, ways, measures

    public int sight(int view, int sight, int trait, int what) {
        if (!isPart(sight) || !isTrait(trait) || !isPart(what) || !lookBy(view)) {
            return NONE;
        }
        return taken.atLeast(sight + what, trait, NONE);
    }

    public int even(int view, int what) {
        if (what < 0 || what > 3 || !lookBy(view)) {
            return NONE;
        }
        switch (what) {
            case 0:
                return taken.isEven(0, SEEN, NONE) ? 1 : 0;
            case 1:
                return taken.isEven(SEEN, LET, NONE) ? 1 : 0;
            case 2:
                return taken.isEven(0, LET, NONE) ? 1 : 0;
            default:
                return officesAreEven() ? 1 : 0;
        }
    }

    public int way(int view, int mark) {
        if (!isMark(mark) || !lookBy(view)) {
            return -10 * MILLION;
        }
        int zeros = taken.withMark(0, mark, NONE, 0);
        int ones = taken.withMark(1, mark, NONE, 0);
        if (zeros == 0 || ones == 0) {
            return 0;
        }
        long sum = 0;
        for (int v = 0; v <= 9; v++) {
            int onesThere = taken.withMark(1, mark, v, 0);
            if (onesThere > 0) {
                long more = (long) taken.withMark(0, mark, v, 0) * MILLION / zeros - (long) onesThere * MILLION / ones;
                sum += more * taken.withMark(1, mark, v, LET) / onesThere;
            }
        }
        return (int) sum;
    }

    public int split(int view, int measure, int part) {
        if (!isMeasure(measure) || !isPart(part) || !lookBy(view)) {
            return NONE;
        }
        setSplit(measure);
        return fraction.part(part);
    }

    public int holds(int view, int measure, int t) {
        if (!isMeasure(measure) || !isWidth(t) || !lookBy(view)) {
            return NONE;
        }
        setSplit(measure);
        return fraction.isWithin(t) ? 1 : 0;
    }

    public int nearest(int view, int mark, int measure, int t, int what) {
        if (!isMark(mark) || !isMeasure(measure) || !isWidth(t) || what < 0 || what > 2 || !lookBy(view)) {
            return NONE;
        }
        bars.gather(cases, taken, mark);
        int best = -2;
        int most = -2;
        for (int i = 0; i < BARS * BARS; i++) {
            bars.setSplit(fraction, measure, i / BARS, i % BARS);
            int right = bars.rightOf(i / BARS, i % BARS);
            if (fraction.isWithin(t) && right > most) {
                best = i;
                most = right;
            }
        }
        if (best < 0 || what == 2) {
            return most;
        }
        return what == 0 ? best / BARS : best % BARS;
    }

    public int clash(int view, int mark, int first, int second, int t) {
        if (!isMark(mark) || !isMeasure(first) || !isMeasure(second) || first == second
                || !isWidth(t) || !lookBy(view)) {
            return NONE;
        }
        bars.gather(cases, taken, mark);
        int both = 0;
        for (int i = 0; i < BARS * BARS; i++) {
            bars.setSplit(fraction, first, i / BARS, i % BARS);
            if (fraction.isWithin(t)) {
                bars.setSplit(fraction, second, i / BARS, i % BARS);
                both += fraction.isWithin(t) ? 1 : 0;
            }
        }
        return both;
    }

    // ---- V. Short rules, one's own case

    public int few(int view, int n) {
        if (n < 0 || n > MOST_CASES || !lookBy(view)) {
            return NONE;
        }
        shortRules.gather(cases, taken);
        for (int many = 0; many <= 2; many++) {
            shortRules.search(many);
            if (shortRules.least <= n) {
                return many;
            }
        }
        return -2;
    }

    public int best(int view, int many, int what) {
        if (many < 0 || many > 2 || !isPart(what) || !lookBy(view)) {
            return NONE;
        }
        shortRules.gather(cases, taken);
        shortRules.search(many);
        if (what == 0) {
            return shortRules.least;
        }
        if (shortRules.allName) {
            return 2;
        }
        return shortRules.someName ? 1 : 0;
    }

    public int own(int view, int k, int what) {
        View look = viewAt(view);
        if (look == null || !isPart(what) || cases.missesOneOf(k, look.like) || !lookBy(view)) {
            return NONE;
        }
        int key = cases.keyOf(k, look.like);
        int others = 0;
        for (int i = 0; i < taken.size; i++) {
            int other = taken.caseAt(i);
            if (other != k && cases.keyOf(other, look.like) == key && (what == 0 || cases.stageOf(other) == LET)) {
                others++;
            }
        }
        return others;
    }

    public int change(int k, int rule, int what) {
        Test test = ruleAt(rule);
        if (test == null || !cases.has(k) || what < 0 || what > 5) {
            return NONE;
        }
        cases.writeRow(k, row);
        nearestChange.seek(test, row);
        return nearestChange.tell(what);
    }

    // ---- IMAGES and counts

    public int image(int k) {
        if (k < 0 || k >= IMAGES) {
            return NONE;
        }
        Cases keptCases = caseImages[k];
        Letters keptLetters = letterImages[k];
        if (keptCases == null || keptLetters == null) {
            keptCases = new Cases();
            keptLetters = new Letters();
            caseImages[k] = keptCases;
            letterImages[k] = keptLetters;
        }
        keptCases.copyFrom(cases);
        keptLetters.copyFrom(letters);
        return cases.size;
    }

    public int back(int k) {
        if (k < 0 || k >= IMAGES) {
            return NONE;
        }
        Cases keptCases = caseImages[k];
        Letters keptLetters = letterImages[k];
        if (keptCases == null || keptLetters == null) {
            return NONE;
        }
        cases.copyFrom(keptCases);
        letters.copyFrom(keptLetters);
        return cases.size;
    }

    public int count(int what) {
        switch (what) {
            case 0:
                return cases.size;
            case 1:
                return letters.size;
            case 2:
                return viewCount;
            case 3:
                return ruleCount;
            case 4:
                return tape.length;
            default:
                return NONE;
        }
    }

    // ---- What the calls share

    private static boolean isTrait(int trait) {
        return trait == 0 || trait == 1;
    }

    private static boolean isPart(int part) {
        return part == 0 || part == 1;
    }

    private static boolean isOffice(int office) {
        return office >= 0 && office < OFFICES;
    }

    private static boolean isOfficeOrAll(int office) {
        return office == NONE || isOffice(office);
    }

    private static boolean isMark(int mark) {
        return mark >= 0 && mark < MARKS;
    }

    private static boolean isMeasure(int measure) {
        return measure >= 0 && measure < MEASURES;
    }

    private static boolean isWidth(int t) {
        return t >= 0 && t <= THOUSAND;
    }

    private static boolean areMore(int p, int q) {
        return p >= 0 && p <= 999 && q >= 0 && q <= 999;
    }

    private View viewAt(int view) {
        return view >= 0 && view < viewCount && view < views.length ? views[view] : null;
    }

    private Test ruleAt(int rule) {
        return rule >= 0 && rule < ruleCount && rule < rules.length ? rules[rule] : null;
    }

    /** Finds what a VIEW takes; false if there is no such VIEW. */
    private boolean lookBy(int view) {
        View look = viewAt(view);
        if (look == null) {
            return false;
        }
        taken.gather(look, look.like);
        return true;
    }

    /** The GAP if there were so many more of each TRAIT, and so many of these LET. */
    private void setGap(int zerosLet, int zeros, int onesLet, int ones) {
        fraction.setSplit(taken.atLeast(LET, 0, NONE) + zerosLet, taken.atLeast(0, 0, NONE) + zeros,
                taken.atLeast(LET, 1, NONE) + onesLet, taken.atLeast(0, 1, NONE) + ones);
    }

    private void setSplit(int measure) {
        fraction.setSplit(taken.metOf(measure, 0), taken.judgedOf(measure, 0),
                taken.metOf(measure, 1), taken.judgedOf(measure, 1));
    }

    private boolean officesAreEven() {
        for (int office = 0; office < OFFICES; office++) {
            if (!taken.isEven(0, LET, office)) {
                return false;
            }
        }
        return true;
    }

    /** How many ways to choose k of n, n 60 at most: these, times 60, fit a long. */
    private static long choose(int n, int k) {
        if (k < 0 || k > n || n > 60) {
            return 0;
        }
        long ways = 1;
        for (int i = 1; i <= k; i++) {
            ways = ways * (n - i + 1) / i;
        }
        return ways;
    }

    private static long power(int base, int times) {
        long power = 1;
        for (int i = 0; i < times; i++) {
            power *= base;
        }
        return power;
    }

    /** The ways with h or more heads of n, each head weighed g. */
    private static long heads(int n, int h, int g) {
        long ways = 0;
        for (int k = h; k <= n; k++) {
            ways += choose(n, k) * power(g, k);
        }
        return ways;
    }

    /** The people who asked. */
    private static final class Cases {
        private final int[] traits = new int[MOST_CASES];
        private final int[] offices = new int[MOST_CASES];
        private final int[] stages = new int[MOST_CASES];
        private final int[] cames = new int[MOST_CASES];
        private final int[] marks = new int[MOST_CASES * MARKS];
        int size;

        Cases() {
        }

        boolean has(int k) {
            return k >= 0 && k < size && k < MOST_CASES;
        }

        int add(int trait, int office, int stage, int came) {
            if (size < 0 || size >= MOST_CASES) {
                return NONE;
            }
            traits[size] = trait;
            offices[size] = office;
            stages[size] = stage;
            cames[size] = came;
            Arrays.fill(marks, size * MARKS, size * MARKS + MARKS, NONE);
            size++;
            return size - 1;
        }

        int traitOf(int k) {
            return has(k) ? traits[k] : NONE;
        }

        int officeOf(int k) {
            return has(k) ? offices[k] : NONE;
        }

        int stageOf(int k) {
            return has(k) ? stages[k] : NONE;
        }

        int cameOf(int k) {
            return has(k) ? cames[k] : NONE;
        }

        int markOf(int k, int mark) {
            return has(k) && isMark(mark) ? marks[k * MARKS + mark] : NONE;
        }

        void setMark(int k, int mark, int v) {
            if (has(k) && isMark(mark)) {
                marks[k * MARKS + mark] = v;
            }
        }

        /** Whether one of these MARKS is missing, or there is no such CASE at all. */
        boolean missesOneOf(int k, int markSet) {
            if (!has(k)) {
                return true;
            }
            for (int m = 0; m < MARKS; m++) {
                if ((markSet >> m & 1) != 0 && markOf(k, m) == NONE) {
                    return true;
                }
            }
            return false;
        }

        /** A number that is the same for two CASES with the same MARKS of this set, none missing. */
        int keyOf(int k, int markSet) {
            int key = 0;
            for (int m = 0; m < MARKS; m++) {
                if ((markSet >> m & 1) != 0) {
                    key = key * 10 + markOf(k, m);
                }
            }
            return key;
        }

        /** Writes what each WORD of a TEST stands for in a CASE. */
        void writeRow(int k, int[] row) {
            if (row.length < WORDS) {
                return;
            }
            for (int m = 0; m < MARKS; m++) {
                row[m] = markOf(k, m);
            }
            row[TRAIT_WORD] = traitOf(k);
            row[OFFICE_WORD] = officeOf(k);
            row[STAGE_WORD] = stageOf(k);
            row[CAME_WORD] = Math.max(cameOf(k), 0);
            row[KNOWN_WORD] = cameOf(k) == NONE ? 0 : 1;
        }

        void copyFrom(Cases other) {
            System.arraycopy(other.traits, 0, traits, 0, MOST_CASES);
            System.arraycopy(other.offices, 0, offices, 0, MOST_CASES);
            System.arraycopy(other.stages, 0, stages, 0, MOST_CASES);
            System.arraycopy(other.cames, 0, cames, 0, MOST_CASES);
            System.arraycopy(other.marks, 0, marks, 0, MOST_CASES * MARKS);
            size = other.size;
        }
    }

    /** LETTERS sent out alike but for the TRAIT; an office NONE asks for all of them. */
    private static final class Letters {
        private final int[] offices = new int[MOST_LETTERS];
        private final boolean[] firsts = new boolean[MOST_LETTERS];
        private final boolean[] seconds = new boolean[MOST_LETTERS];
        int size;

        Letters() {
        }

        int add(int office, boolean first, boolean second) {
            if (size < 0 || size >= MOST_LETTERS) {
                return NONE;
            }
            offices[size] = office;
            firsts[size] = first;
            seconds[size] = second;
            size++;
            return size - 1;
        }

        int sentTo(int office) {
            int sent = 0;
            for (int i = 0; i < size && i < MOST_LETTERS; i++) {
                if (office == NONE || offices[i] == office) {
                    sent++;
                }
            }
            return sent;
        }

        int turnedOf(int office) {
            int turned = 0;
            for (int i = 0; i < size && i < MOST_LETTERS; i++) {
                if ((office == NONE || offices[i] == office) && firsts[i] != seconds[i]) {
                    turned++;
                }
            }
            return turned;
        }

        int headsOf(int office) {
            int heads = 0;
            for (int i = 0; i < size && i < MOST_LETTERS; i++) {
                if ((office == NONE || offices[i] == office) && firsts[i] && !seconds[i]) {
                    heads++;
                }
            }
            return heads;
        }

        void copyFrom(Letters other) {
            System.arraycopy(other.offices, 0, offices, 0, MOST_LETTERS);
            System.arraycopy(other.firsts, 0, firsts, 0, MOST_LETTERS);
            System.arraycopy(other.seconds, 0, seconds, 0, MOST_LETTERS);
            size = other.size;
        }
    }

    /** A TEST as a row of steps, each a kind (what binds closer is more) and what it works on. */
    private static final class Test {
        static final int STEP = 65536;
        static final int START = 0;
        static final int ADD = 1;
        static final int SUBTRACT = 2;
        static final int COMPARE = 3;
        static final int OR = 4;
        static final int AND = 5;
        static final int NOT = 6;
        /** What a value is at least, when it is a WORD and no NUMBER. */
        static final int FIRST_WORD = 10000;

        private final int[] steps;
        final int markSet;

        Test(int[] steps, int markSet) {
            this.steps = steps;
            this.markSet = markSet;
        }

        boolean isTrue(int[] row) {
            // the answers still waiting are bits, the youngest the lowest: brackets 10 deep leave 23 at most
            long answers = 0;
            int left = 0;
            int sum = 0;
            boolean misses = false;
            for (int i = 0; i < steps.length; i++) {
                int kind = steps[i] / STEP;
                int on = steps[i] % STEP;
                if (kind <= SUBTRACT) {
                    int value = valueOf(on, row);
                    misses = misses || isMark(on - FIRST_WORD) && value == NONE;
                    left = kind == START ? sum : left;
                    sum = kind == START ? value : kind == ADD ? sum + value : sum - value;
                } else if (kind == COMPARE) {
                    answers = answers << 1 | (!misses && compares(left, on, sum) ? 1 : 0);
                    misses = false;
                } else if (kind == NOT) {
                    answers ^= 1;
                } else {
                    long older = answers >> 1;
                    long met = kind == AND ? answers & older & 1 : (answers | older) & 1;
                    answers = older & -2L | met;
                }
            }
            return (answers & 1) != 0;
        }

        private static int valueOf(int on, int[] row) {
            int word = on - FIRST_WORD;
            if (word < 0) {
                return on;
            }
            return word < row.length ? row[word] : 0;
        }

        private static boolean compares(int left, int sign, int right) {
            switch (sign) {
                case '<':
                    return left < right;
                case Reader.LESS_OR_SAME:
                    return left <= right;
                case '=':
                    return left == right;
                case Reader.MORE_OR_SAME:
                    return left >= right;
                default:
                    return left > right;
            }
        }
    }

    /** Whom one looks at, what must be like and what near. */
    private static final class View {
        Test among;
        int like;
        int near;
        private final int[] numbers = new int[MARKS];
        int within = NONE;

        View() {
        }

        int farthest() {
            return within == NONE ? 999 : within;
        }

        void setNear(int mark, int number) {
            if (isMark(mark)) {
                near |= 1 << mark;
                numbers[mark] = number;
            }
        }

        int numberOf(int mark) {
            return isMark(mark) ? numbers[mark] : 0;
        }
    }

    /** The TAPE, and how it is read as a VIEW or a RULE, up to its first FAULT. */
    private static final class Reader {
        private static final int STRANGE = 0;
        private static final int WRONG_NUMBER = 1;
        private static final int TOO_DEEP = 2;
        private static final int TOO_MANY = 3;
        private static final int AGAIN = 4;
        private static final int DEEPEST = 10;
        private static final int MOST_PARTS = 40;

        /** A WORD is told by its place in this list (the first eleven as in a row), a sign by its byte. */
        private static final String WORD_LIST =
                "ma mb mc md me mf trait office stage came known among like near within and or not ";
        private static final int AMONG = 11;
        private static final int LIKE = 12;
        private static final int NEAR = 13;
        private static final int WITHIN = 14;
        private static final int AND = 15;
        private static final int OR = 16;
        private static final int NOT = 17;
        private static final int NUMBER = 200;
        private static final int LESS_OR_SAME = 201;
        private static final int MORE_OR_SAME = 202;
        private static final int UNKNOWN = 203;
        private static final int END = 204;

        /** What an open [ is among the steps that wait for their second part: it waits below all of them. */
        private static final int BRACKET = Test.COMPARE;

        private final int[] bytes = new int[MOST_BYTES];
        int length;

        private final int[] kinds = new int[MOST_BYTES + 1];
        private final int[] values = new int[MOST_BYTES + 1];
        private final int[] places = new int[MOST_BYTES + 1];
        private int tokens;
        private int next;

        private final int[] steps = new int[MOST_BYTES];
        private int stepCount;
        private int markSet;
        private int parts;
        private final int[] waiting = new int[MOST_BYTES];
        private int waitingCount;
        /** 0 if there is none so far. */
        int fault;

        Reader() {
        }

        void append(int number) {
            for (int shift = 24; shift >= 0; shift -= 8) {
                if (length >= 0 && length < MOST_BYTES) {
                    bytes[length] = number >>> shift & 255;
                    length++;
                }
            }
        }

        /** NONE behind the end. */
        private int byteAt(int i) {
            return i >= 0 && i < length && i < MOST_BYTES ? bytes[i] : NONE;
        }

        /** The VIEW, or null if there is a FAULT. */
        View readView() {
            scanAll();
            View view = new View();
            readClause(view);
            for (int i = 0; i < MOST_BYTES && fault == 0 && kind() == ';'; i++) {
                next++;
                readClause(view);
            }
            if (kind() != END) {
                blame(STRANGE);
            }
            return fault == 0 ? view : null;
        }

        /** The RULE, or null if there is a FAULT. */
        Test readRule() {
            scanAll();
            Test test = readTest();
            if (kind() != END) {
                blame(STRANGE);
            }
            return fault == 0 ? test : null;
        }

        // ---- From bytes to tokens

        private void scanAll() {
            tokens = 0;
            next = 0;
            fault = 0;
            int at = 0;
            for (int i = 0; i < MOST_BYTES && at < length; i++) {
                at = scan(at);
            }
            put(END, 0, length);
        }

        /** Puts down the token that begins here, and tells where it ends. */
        private int scan(int at) {
            int b = byteAt(at);
            if (b == ' ') {
                return at + 1;
            }
            if (isLetter(b)) {
                int end = at;
                while (end < MOST_BYTES && (isLetter(byteAt(end)) || isDigit(byteAt(end)))) {
                    end++;
                }
                put(wordOf(at, end), 0, at);
                return end;
            }
            if (isDigit(b)) {
                return scanNumber(at);
            }
            if ((b == '<' || b == '>') && byteAt(at + 1) == '=') {
                put(b == '<' ? LESS_OR_SAME : MORE_OR_SAME, 0, at);
                return at + 2;
            }
            boolean isSign = b == ';' || b == '[' || b == ']' || b == '+' || b == '-'
                    || b == '<' || b == '=' || b == '>';
            put(isSign ? b : UNKNOWN, 0, at);
            return at + 1;
        }

        /** A NUMBER of more than 4 digits has the value NONE. */
        private int scanNumber(int at) {
            int end = at;
            int value = 0;
            while (end < MOST_BYTES && isDigit(byteAt(end))) {
                if (end < at + 4) {
                    value = value * 10 + byteAt(end) - '0';
                }
                end++;
            }
            put(NUMBER, end - at > 4 ? NONE : value, at);
            return end;
        }

        private int wordOf(int from, int to) {
            int word = 0;
            int start = 0;
            boolean same = true;
            for (int i = 0; i < WORD_LIST.length(); i++) {
                if (WORD_LIST.charAt(i) != ' ') {
                    same = same && byteAt(from + i - start) == WORD_LIST.charAt(i);
                } else if (same && i - start == to - from) {
                    return word;
                } else {
                    word++;
                    start = i + 1;
                    same = true;
                }
            }
            return UNKNOWN;
        }

        private void put(int kind, int value, int place) {
            if (tokens >= 0 && tokens <= MOST_BYTES) {
                kinds[tokens] = kind;
                values[tokens] = value;
                places[tokens] = place;
                tokens++;
            }
        }

        private static boolean isLetter(int b) {
            return b >= 'a' && b <= 'z';
        }

        private static boolean isDigit(int b) {
            return b >= '0' && b <= '9';
        }

        // ---- From tokens to clauses

        private int kind() {
            return next >= 0 && next < tokens && next <= MOST_BYTES ? kinds[next] : END;
        }

        private int value() {
            return next >= 0 && next < tokens && next <= MOST_BYTES ? values[next] : NONE;
        }

        /** The first FAULT stays: what is read behind it counts no more. */
        private void blame(int code) {
            if (fault == 0) {
                int place = next >= 0 && next < tokens && next <= MOST_BYTES ? places[next] : length;
                fault = 1 + 8 * place + code;
            }
        }

        private void readClause(View view) {
            int clause = kind();
            if (clause == AMONG && view.among != null || clause == WITHIN && view.within != NONE) {
                blame(AGAIN);
            }
            if (clause < AMONG || clause > WITHIN) {
                blame(STRANGE);
            }
            if (fault != 0) {
                return;
            }
            next++;
            if (clause == AMONG) {
                view.among = readTest();
            } else if (clause == WITHIN) {
                view.within = readNumber(0, 999);
            } else {
                int mark = readMark(view.like | view.near);
                int number = clause == NEAR ? readNumber(1, 99) : 0;
                if (fault == 0 && clause == NEAR) {
                    view.setNear(mark, number);
                } else if (fault == 0) {
                    view.like |= 1 << mark;
                }
            }
        }

        private int readMark(int named) {
            int mark = kind();
            if (!isMark(mark)) {
                blame(STRANGE);
                return 0;
            }
            if ((named >> mark & 1) != 0) {
                blame(AGAIN);
            }
            next++;
            return mark;
        }

        private int readNumber(int least, int most) {
            int number = value();
            if (kind() != NUMBER) {
                blame(STRANGE);
            } else if (number < least || number > most) {
                blame(WRONG_NUMBER);
            }
            next++;
            return number;
        }

        // ---- From tokens to the steps of a TEST

        private Test readTest() {
            stepCount = 0;
            markSet = 0;
            parts = 0;
            waitingCount = 0;
            boolean goesOn = true;
            for (int i = 0; i <= MOST_BYTES && fault == 0 && goesOn; i++) {
                int kind = kind();
                if (kind == NOT || kind == '[') {
                    open(kind == NOT ? Test.NOT : BRACKET);
                } else {
                    readComparison();
                    goesOn = readBehindFact();
                }
            }
            return fault == 0 ? new Test(Arrays.copyOf(steps, stepCount), markSet) : null;
        }

        private void open(int step) {
            int depth = 0;
            for (int i = 0; i < waitingCount && i < MOST_BYTES; i++) {
                if (waiting[i] == Test.NOT || waiting[i] == BRACKET) {
                    depth++;
                }
            }
            if (depth >= DEEPEST) {
                blame(TOO_DEEP);
            }
            await(step);
        }

        private void await(int step) {
            if (waitingCount >= 0 && waitingCount < MOST_BYTES) {
                waiting[waitingCount] = step;
                waitingCount++;
            }
            next++;
        }

        /** What waits and binds as close as this step, or closer, has its second part now. */
        private void settle(int step) {
            for (int i = 0; i < MOST_BYTES && waitingCount > 0 && waitingCount <= MOST_BYTES; i++) {
                if (waiting[waitingCount - 1] < step) {
                    return;
                }
                waitingCount--;
                addStep(waiting[waitingCount], 0);
            }
        }

        /** Whether another FACT must come. */
        private boolean readBehindFact() {
            settle(Test.NOT);
            for (int i = 0; i < MOST_BYTES && fault == 0 && kind() == ']'; i++) {
                settle(Test.OR);
                if (waitingCount == 0) {
                    return false;
                }
                waitingCount--;
                next++;
                settle(Test.NOT);
            }
            if (kind() == AND || kind() == OR) {
                int step = kind() == AND ? Test.AND : Test.OR;
                settle(step);
                await(step);
                return true;
            }
            settle(Test.OR);
            if (waitingCount > 0) {
                blame(STRANGE);
            }
            return false;
        }

        private void readComparison() {
            readSum();
            int sign = readSign();
            readSum();
            addStep(Test.COMPARE, sign);
        }

        private void readSum() {
            readValue(Test.START);
            for (int i = 0; i < MOST_BYTES && fault == 0 && (kind() == '+' || kind() == '-'); i++) {
                int step = kind() == '+' ? Test.ADD : Test.SUBTRACT;
                next++;
                readValue(step);
            }
        }

        private void readValue(int step) {
            int word = kind();
            parts++;
            if (word != NUMBER && word >= WORDS) {
                blame(STRANGE);
            } else if (word == NUMBER && value() == NONE) {
                blame(WRONG_NUMBER);
            } else if (parts > MOST_PARTS) {
                blame(TOO_MANY);
            }
            addStep(step, word == NUMBER ? value() : Test.FIRST_WORD + word);
            markSet |= isMark(word) ? 1 << word : 0;
            next++;
        }

        private int readSign() {
            int sign = kind();
            parts++;
            if (sign != '<' && sign != LESS_OR_SAME && sign != '=' && sign != MORE_OR_SAME && sign != '>') {
                blame(STRANGE);
            } else if (parts > MOST_PARTS) {
                blame(TOO_MANY);
            }
            next++;
            return sign;
        }

        private void addStep(int kind, int on) {
            if (fault == 0 && stepCount >= 0 && stepCount < MOST_BYTES) {
                steps[stepCount] = kind * Test.STEP + on;
                stepCount++;
            }
        }
    }

    /** The CASES that a VIEW takes, and their GROUPS. */
    private static final class Taken {
        private final Cases cases;
        private final int[] row = new int[WORDS];
        private final int[] list = new int[MOST_CASES];
        int size;
        private int like;
        private final int[] groupOf = new int[MOST_CASES];
        private final int[] keys = new int[MOST_CASES];
        /** Four numbers a GROUP: of TRAIT 0, LET of these, of TRAIT 1, LET of these. */
        private final int[] tallies = new int[MOST_CASES * 4];
        int groups;

        Taken(Cases cases) {
            this.cases = cases;
        }

        /** By a VIEW, as if these were its MARKS of like. */
        void gather(View view, int likeSet) {
            size = 0;
            groups = 0;
            like = likeSet;
            for (int k = 0; k < cases.size && size < MOST_CASES; k++) {
                if (!cases.missesOneOf(k, likeSet) && isAmong(view.among, k)) {
                    list[size] = k;
                    size++;
                }
            }
        }

        private boolean isAmong(Test among, int k) {
            if (among == null) {
                return true;
            }
            cases.writeRow(k, row);
            return among.isTrue(row);
        }

        /** The CASE at a place of the list, NONE beside it. */
        int caseAt(int i) {
            return i >= 0 && i < size && i < MOST_CASES ? list[i] : NONE;
        }

        /** How many of a TRAIT, by an office or all (NONE), came to this STAGE at least. */
        int atLeast(int stage, int trait, int office) {
            int found = 0;
            for (int i = 0; i < size; i++) {
                int k = caseAt(i);
                if (cases.traitOf(k) == trait && cases.stageOf(k) >= stage
                        && (office == NONE || cases.officeOf(k) == office)) {
                    found++;
                }
            }
            return found;
        }

        /** Whether of those that came to one STAGE the same SHARE of both TRAITS came to the other. */
        boolean isEven(int from, int to, int office) {
            int zeros = atLeast(from, 0, office);
            int ones = atLeast(from, 1, office);
            return zeros == 0 || ones == 0
                    || atLeast(to, 0, office) * ones == atLeast(to, 1, office) * zeros;
        }

        /** How many of a TRAIT have this value of a MARK, or any (NONE), and came to this STAGE at least. */
        int withMark(int trait, int mark, int value, int stage) {
            int found = 0;
            for (int i = 0; i < size; i++) {
                int k = caseAt(i);
                int has = cases.markOf(k, mark);
                if (cases.traitOf(k) == trait && has != NONE && (value == NONE || has == value)
                        && cases.stageOf(k) >= stage) {
                    found++;
                }
            }
            return found;
        }

        /** How many of a TRAIT a MEASURE is taken by. */
        int judgedOf(int measure, int trait) {
            int found = 0;
            for (int i = 0; i < size; i++) {
                int k = caseAt(i);
                if (cases.traitOf(k) == trait && isJudged(measure, k)) {
                    found++;
                }
            }
            return found;
        }

        /** How many of these it counts. */
        int metOf(int measure, int trait) {
            int found = 0;
            for (int i = 0; i < size; i++) {
                int k = caseAt(i);
                boolean met = measure == 3 ? cases.cameOf(k) == 1 : cases.stageOf(k) == LET;
                if (cases.traitOf(k) == trait && isJudged(measure, k) && met) {
                    found++;
                }
            }
            return found;
        }

        private boolean isJudged(int measure, int k) {
            switch (measure) {
                case 0:
                    return true;
                case 1:
                    return cases.cameOf(k) == 1;
                case 2:
                    return cases.cameOf(k) == 0;
                default:
                    return cases.stageOf(k) == LET && cases.cameOf(k) != NONE;
            }
        }

        /** Puts those gathered into GROUPS. */
        void sort() {
            groups = 0;
            Arrays.fill(tallies, 0);
            for (int i = 0; i < size && i < MOST_CASES; i++) {
                int k = list[i];
                int g = groupWith(cases.keyOf(k, like));
                groupOf[i] = g;
                tallyUp(g, k, 1);
            }
        }

        private int groupWith(int key) {
            for (int g = 0; g < groups && g < MOST_CASES; g++) {
                if (keys[g] == key) {
                    return g;
                }
            }
            if (groups >= 0 && groups < MOST_CASES) {
                keys[groups] = key;
                groups++;
            }
            return groups - 1;
        }

        private void tallyUp(int g, int k, int many) {
            int place = g * 4 + cases.traitOf(k) * 2;
            if (place >= 0 && place + 1 < tallies.length) {
                tallies[place] += many;
                tallies[place + 1] += cases.stageOf(k) == LET ? many : 0;
            }
        }

        int tallyOf(int g, int what) {
            int place = g * 4 + what;
            return place >= 0 && place < tallies.length ? tallies[place] : 0;
        }

        private boolean isMixed(int g) {
            return tallyOf(g, 0) > 0 && tallyOf(g, 2) > 0;
        }

        boolean hasMixedGroup() {
            for (int g = 0; g < groups; g++) {
                if (isMixed(g)) {
                    return true;
                }
            }
            return false;
        }

        int wouldOf(int g) {
            int zeros = tallyOf(g, 0);
            if (zeros <= 0 || !isMixed(g)) {
                return NONE;
            }
            return THOUSAND * tallyOf(g, 2) * tallyOf(g, 1) / zeros;
        }

        private int lackOf(int g) {
            return isMixed(g) ? wouldOf(g) - THOUSAND * tallyOf(g, 3) : 0;
        }

        int lackSum() {
            int sum = 0;
            for (int g = 0; g < groups; g++) {
                sum += lackOf(g);
            }
            return sum;
        }

        /** What LACKS would be more without the CASE at a place of the list. */
        int lackChange(int i) {
            int k = caseAt(i);
            if (k == NONE) {
                return 0;
            }
            int g = groupOf[i];
            int before = lackOf(g);
            tallyUp(g, k, -1);
            int after = lackOf(g);
            tallyUp(g, k, 1);
            return after - before;
        }
    }

    /** A fraction in lowest terms, 0 by 0 if there is none. */
    private static final class Fraction {
        long above;
        long below;

        Fraction() {
        }

        /** One SHARE less another. */
        void setSplit(int met0, int all0, int met1, int all1) {
            above = 0;
            below = 0;
            if (all0 > 0 && all1 > 0) {
                above = (long) met0 * all1 - (long) met1 * all0;
                below = (long) all0 * all1;
                long common = commonDivisor(Math.abs(above), below);
                if (common > 1) {
                    above /= common;
                    below /= common;
                }
            }
        }

        int part(int part) {
            return (int) (part == 0 ? above : below);
        }

        boolean isWithin(int thousandths) {
            return below > 0 && Math.abs(above) * THOUSAND <= thousandths * below;
        }

        boolean isAtLeast(int thousandths) {
            return below > 0 && above * THOUSAND >= thousandths * below;
        }

        private static long commonDivisor(long a, long b) {
            // a hundred steps are more than any two longs need
            for (int i = 0; i < 100 && b != 0; i++) {
                long rest = a % b;
                a = b;
                b = rest;
            }
            return a;
        }
    }

    /** PAIRS: the cheapest way to match rows and columns, where what can't be paired costs more than all the rest. */
    private static final class Pairing {
        private static final int SIDE = 10;
        private static final int FAR = 100000;
        private static final int NO_WAY = 1000000000;

        private final int[] zeros = new int[SIDE];
        private final int[] ones = new int[SIDE];
        /** From here on all begins with 1: place 0 is the row that is just being added. */
        private final int[] costs = new int[(SIDE + 1) * (SIDE + 1)];
        private final int[] rowPrice = new int[SIDE + 1];
        private final int[] columnPrice = new int[SIDE + 1];
        private final int[] rowOf = new int[SIDE + 1];
        private final int[] cameFrom = new int[SIDE + 1];
        private final int[] slack = new int[SIDE + 1];
        private final boolean[] reached = new boolean[SIDE + 1];
        int found;
        int sum;

        Pairing() {
        }

        void pair(Cases cases, View view, Taken taken) {
            pickFirst(cases, taken, 0, zeros);
            pickFirst(cases, taken, 1, ones);
            for (int i = 1; i <= SIDE; i++) {
                for (int j = 1; j <= SIDE; j++) {
                    costs[i * (SIDE + 1) + j] = distance(cases, view, zeros[i - 1], ones[j - 1]);
                }
            }
            Arrays.fill(rowPrice, 0);
            Arrays.fill(columnPrice, 0);
            Arrays.fill(rowOf, 0);
            for (int i = 1; i <= SIDE; i++) {
                addRow(i);
            }
            addUp();
        }

        private static void pickFirst(Cases cases, Taken taken, int trait, int[] picked) {
            Arrays.fill(picked, NONE);
            int many = 0;
            for (int i = 0; i < taken.size && many < picked.length; i++) {
                int k = taken.caseAt(i);
                if (cases.traitOf(k) == trait) {
                    picked[many] = k;
                    many++;
                }
            }
        }

        private static int distance(Cases cases, View view, int a, int b) {
            if (cases.missesOneOf(a, view.like | view.near) || cases.missesOneOf(b, view.like | view.near)
                    || cases.keyOf(a, view.like) != cases.keyOf(b, view.like)) {
                return FAR;
            }
            int distance = 0;
            for (int m = 0; m < MARKS; m++) {
                if ((view.near >> m & 1) != 0) {
                    distance += view.numberOf(m) * Math.abs(cases.markOf(a, m) - cases.markOf(b, m));
                }
            }
            return distance <= view.farthest() ? distance : FAR;
        }

        /** The row takes a column, the cheapest when those already taken may change theirs. */
        private void addRow(int i) {
            for (int j = 0; j <= SIDE; j++) {
                slack[j] = NO_WAY;
                reached[j] = false;
            }
            rowOf[0] = i;
            int column = 0;
            for (int step = 0; step <= SIDE && isTaken(column); step++) {
                reached[column] = true;
                column = reachNext(column);
            }
            for (int step = 0; step <= SIDE && column > 0 && column <= SIDE; step++) {
                int before = cameFrom[column];
                rowOf[column] = rowAt(before);
                column = before;
            }
        }

        private boolean isTaken(int column) {
            return column >= 0 && column <= SIDE && rowOf[column] != 0;
        }

        /** 0 if the column is free. */
        private int rowAt(int column) {
            int row = column >= 0 && column <= SIDE ? rowOf[column] : 0;
            return row >= 0 && row <= SIDE ? row : 0;
        }

        private int reachNext(int column) {
            int row = rowAt(column);
            int nearest = 0;
            int least = NO_WAY;
            for (int j = 1; j <= SIDE; j++) {
                if (!reached[j]) {
                    int cost = costs[row * (SIDE + 1) + j] - rowPrice[row] - columnPrice[j];
                    if (cost < slack[j]) {
                        slack[j] = cost;
                        cameFrom[j] = column;
                    }
                    if (slack[j] < least) {
                        least = slack[j];
                        nearest = j;
                    }
                }
            }
            for (int j = 0; j <= SIDE; j++) {
                if (reached[j]) {
                    rowPrice[rowAt(j)] += least;
                    columnPrice[j] -= least;
                } else {
                    slack[j] -= least;
                }
            }
            return nearest;
        }

        private void addUp() {
            found = 0;
            sum = 0;
            for (int j = 1; j <= SIDE; j++) {
                int cost = costs[rowAt(j) * (SIDE + 1) + j];
                if (cost < FAR) {
                    found++;
                    sum += cost;
                }
            }
        }
    }

    /** By two bars of a MARK: who would be LET, and what came of them. */
    private static final class Bars {
        /** Of each TRAIT, by each bar: those whose MARK is that or more, and good or bad came of them. */
        private final int[] good = new int[2 * BARS];
        private final int[] bad = new int[2 * BARS];

        Bars() {
        }

        void gather(Cases cases, Taken taken, int mark) {
            Arrays.fill(good, 0);
            Arrays.fill(bad, 0);
            for (int i = 0; i < taken.size; i++) {
                int k = taken.caseAt(i);
                int came = cases.cameOf(k);
                int trait = cases.traitOf(k);
                int value = cases.markOf(k, mark);
                if (came != NONE && isTrait(trait)) {
                    for (int bar = 0; bar <= value && bar < BARS; bar++) {
                        if (came == 1) {
                            good[trait * BARS + bar]++;
                        } else {
                            bad[trait * BARS + bar]++;
                        }
                    }
                }
            }
        }

        private int goodAt(int trait, int bar) {
            return isTrait(trait) && bar >= 0 && bar < BARS ? good[trait * BARS + bar] : 0;
        }

        private int badAt(int trait, int bar) {
            return isTrait(trait) && bar >= 0 && bar < BARS ? bad[trait * BARS + bar] : 0;
        }

        void setSplit(Fraction split, int measure, int bar0, int bar1) {
            split.setSplit(metOf(measure, 0, bar0), judgedOf(measure, 0, bar0),
                    metOf(measure, 1, bar1), judgedOf(measure, 1, bar1));
        }

        private int metOf(int measure, int trait, int bar) {
            switch (measure) {
                case 0:
                    return goodAt(trait, bar) + badAt(trait, bar);
                case 2:
                    return badAt(trait, bar);
                default:
                    return goodAt(trait, bar);
            }
        }

        private int judgedOf(int measure, int trait, int bar) {
            switch (measure) {
                case 0:
                    return goodAt(trait, 0) + badAt(trait, 0);
                case 1:
                    return goodAt(trait, 0);
                case 2:
                    return badAt(trait, 0);
                default:
                    return goodAt(trait, bar) + badAt(trait, bar);
            }
        }

        int rightOf(int bar0, int bar1) {
            return goodAt(0, bar0) + badAt(0, 0) - badAt(0, bar0)
                    + goodAt(1, bar1) + badAt(1, 0) - badAt(1, bar1);
        }
    }

    /** SHORT RULES: each part is the set of those taken for whom it is true, as bits. */
    private static final class ShortRules {
        private static final int BITS = 64;
        private static final int SET = 4;
        /** A MARK has nine parts "at least" and nine "at most"; behind all MARKS come the two of the TRAIT. */
        private static final int OF_MARK = 18;
        private static final int FIRST_TRAIT = MARKS * OF_MARK;
        private static final int PARTS = FIRST_TRAIT + 2;
        /** A part that is true for all, at the end. */
        private static final int ALL = PARTS;

        private final long[] parts = new long[(PARTS + 1) * SET];
        private final long[] let = new long[SET];
        private int used;
        int least;
        boolean someName;
        boolean allName;

        ShortRules() {
        }

        void gather(Cases cases, Taken taken) {
            Arrays.fill(parts, 0);
            Arrays.fill(let, 0);
            used = Math.min((taken.size + BITS - 1) / BITS, SET);
            for (int i = 0; i < taken.size && i / BITS < SET; i++) {
                int k = taken.caseAt(i);
                for (int m = 0; m < MARKS; m++) {
                    putMark(i, m, cases.markOf(k, m));
                }
                put(i, FIRST_TRAIT + cases.traitOf(k));
                put(i, ALL);
                if (cases.stageOf(k) == LET) {
                    let[i / BITS] |= 1L << i % BITS;
                }
            }
        }

        private void putMark(int i, int mark, int value) {
            if (value == NONE) {
                return;
            }
            for (int v = 1; v <= 9; v++) {
                if (value >= v) {
                    put(i, mark * OF_MARK + v - 1);
                }
            }
            for (int v = 0; v <= 8; v++) {
                if (value <= v) {
                    put(i, mark * OF_MARK + 9 + v);
                }
            }
        }

        private void put(int i, int part) {
            int place = part * SET + i / BITS;
            if (place >= 0 && place < parts.length) {
                parts[place] |= 1L << i % BITS;
            }
        }

        /** Finds the least WRONG of all rules of so many parts, and whether these name the TRAIT. */
        void search(int many) {
            least = MOST_CASES + 1;
            someName = false;
            allName = false;
            if (many == 0) {
                offer(ALL, ALL);
            } else if (many == 1) {
                for (int a = 0; a < PARTS; a++) {
                    offer(a, ALL);
                }
            } else {
                for (int a = 0; a < PARTS; a++) {
                    for (int b = a + 1; b < PARTS; b++) {
                        offer(a, b);
                    }
                }
            }
        }

        private void offer(int a, int b) {
            int wrong = wrongOf(a, b);
            boolean names = isOfTrait(a) || isOfTrait(b);
            if (wrong < least) {
                least = wrong;
                someName = names;
                allName = names;
            } else if (wrong == least) {
                someName = someName || names;
                allName = allName && names;
            }
        }

        private static boolean isOfTrait(int part) {
            return part >= FIRST_TRAIT && part < PARTS;
        }

        private int wrongOf(int a, int b) {
            int wrong = 0;
            for (int i = 0; i < used && i < SET; i++) {
                wrong += Long.bitCount((trueOf(a, i) & trueOf(b, i)) ^ let[i]);
            }
            return wrong;
        }

        private long trueOf(int part, int i) {
            int place = part * SET + i;
            return place >= 0 && place < parts.length ? parts[place] : 0;
        }
    }

    /** CHANGE: the fewest steps by which a RULE is true. */
    private static final class Change {
        private static final int NO_WAY = 1000;

        private int steps;
        private int first;
        private int firstValue;
        private int second;
        private int secondValue;

        Change() {
        }

        /** What a call answers of the change found. */
        int tell(int what) {
            if (steps == NO_WAY) {
                return -2;
            }
            switch (what) {
                case 0:
                    return steps;
                case 1:
                    return first == NONE ? 0 : second == NONE ? 1 : 2;
                case 2:
                    return first;
                case 3:
                    return firstValue;
                case 4:
                    return second;
                default:
                    return secondValue;
            }
        }

        /** In the order of what comes first among as few steps: so a later one must have fewer. */
        void seek(Test rule, int[] row) {
            keep(NO_WAY, NONE, NONE, NONE, NONE);
            if (row.length < WORDS) {
                return;
            }
            if (rule.isTrue(row)) {
                keep(0, NONE, NONE, NONE, NONE);
                return;
            }
            for (int m = 0; m < MARKS; m++) {
                seekOne(rule, row, m);
            }
            for (int m = 0; m < MARKS; m++) {
                seekTwo(rule, row, m);
            }
        }

        private void keep(int newSteps, int m, int v, int m2, int v2) {
            steps = newSteps;
            first = m;
            firstValue = v;
            second = m2;
            secondValue = v2;
        }

        /** A MARK that the RULE doesn't name can't help. */
        private static boolean isNamed(Test rule, int m) {
            return (rule.markSet >> m & 1) != 0;
        }

        /** 0 if the MARK would not be told otherwise. */
        private static int stepsFrom(int was, int v) {
            return was == NONE ? 10 : Math.abs(was - v);
        }

        private void seekOne(Test rule, int[] row, int m) {
            if (!isNamed(rule, m) || m >= row.length) {
                return;
            }
            int was = row[m];
            for (int v = 0; v <= 9; v++) {
                int far = stepsFrom(was, v);
                if (far > 0 && far < steps) {
                    row[m] = v;
                    if (rule.isTrue(row)) {
                        keep(far, m, v, NONE, NONE);
                    }
                }
            }
            row[m] = was;
        }

        private void seekTwo(Test rule, int[] row, int m) {
            if (!isNamed(rule, m) || m >= row.length) {
                return;
            }
            int was = row[m];
            for (int v = 0; v <= 9; v++) {
                int far = stepsFrom(was, v);
                if (far > 0 && far < steps) {
                    row[m] = v;
                    seekSecond(rule, row, m, far);
                }
            }
            row[m] = was;
        }

        private void seekSecond(Test rule, int[] row, int m, int soFar) {
            for (int m2 = m + 1; m2 < MARKS && m2 < row.length; m2++) {
                if (isNamed(rule, m2)) {
                    int was = row[m2];
                    for (int v = 0; v <= 9; v++) {
                        int far = stepsFrom(was, v);
                        if (far > 0 && soFar + far < steps) {
                            row[m2] = v;
                            if (rule.isTrue(row)) {
                                keep(soFar + far, m, row[m], m2, v);
                            }
                        }
                    }
                    row[m2] = was;
                }
            }
        }
    }
}
