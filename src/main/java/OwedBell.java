import java.util.NoSuchElementException;

/**
 * A bell that rings what it is owed. Every public method answers one numbered promise of
 * ../shared/DOC.md; the words in capitals are the document's.
 */
public final class OwedBell {
    public static final int NONE = -1;

    private static final int TAPE_BYTES = 600;
    private static final int TEXT_BYTES = 150;
    private static final int BOOK_BYTES = 100;
    private static final int MOST_CLAUSES = 60;
    private static final int MOST_VILLAGES = 6;
    private static final int MOST_CELLS = 8;
    private static final int MOST_MONKS = 8;
    private static final int MOST_HEIRS = 4;
    private static final int MOST_LINES = 8;
    private static final int MOST_OPEN = 6;
    private static final int MOST_BEGUN = 200;
    private static final int MOST_WORKS = 16;
    private static final int MOST_IMAGES = 3;
    private static final int MOST_STROKES = 999;
    private static final int MOST_CHEST = 9999;
    private static final int MOST_OWED = 99999;
    private static final int LAST_NIGHT = 999;
    private static final int YEAR = 12;
    private static final int HANGING_NIGHTS = 7;
    private static final int BOOK_NIGHTS = 60;
    private static final int NIGHTS_AHEAD = 60;
    private static final int NIGHTS_GROWING = 120;
    private static final int FITS_OWED = 200;
    private static final int FITS_RATES = 21;

    // FAULTS
    private static final int CANNOT_STAND = 1;
    private static final int NO_SUCH_NUMBER = 2;
    private static final int TOO_MANY = 3;

    // kinds of CLAUSES; 0 is none
    private static final int OWE = 1;
    private static final int RATE = 2;
    private static final int CHEST = 3;
    private static final int HARVEST = 4;
    private static final int VILLAGE = 5;
    private static final int CELL = 6;
    private static final int MONK = 7;
    private static final int HEIR = 8;

    // kinds of STEPS; 0 is none
    private static final int PAY = 1;
    private static final int ALMS = 2;
    private static final int WAX = 3;
    private static final int RECEIPT = 4;
    private static final int SWAP = 5;
    private static final int NIGHT = 6;
    private static final int AGAIN = 7;

    // what stands in a LAW's code: below INPUT a number itself, from INPUT on what is told, then what is done
    private static final int INPUT = 1000;
    private static final int INPUTS = 7;
    private static final int PLUS = 2000;
    private static final int MINUS = 2001;
    private static final int TIMES = 2002;
    private static final int OVER = 2003;
    private static final int LEFT = 2004;
    private static final int LEAST = 2005;
    private static final int MOST = 2006;
    // 21 values wait at most: two of the outermost E, three of each of six open ones, and the one on top
    private static final int STACK = 32;

    private final Tape tape = new Tape();
    private Facts facts = new Facts();
    private Facts spareFacts = new Facts();
    private Law law = new Law();
    private Law spareLaw = new Law();
    private Book lines = new Book();
    private Book spareLines = new Book();
    private final Steps steps = new Steps();
    private final State now = new State();
    private final State trial = new State();
    private final Works works = new Works();
    private final Image[] images = new Image[MOST_IMAGES];
    private int imagesKept;
    private int refusedSteps;
    private int missedCalls;
    private int wrongCalls;
    private final Fits pairs = new Fits();
    private final int[] bids = new int[MOST_HEIRS];
    private final int[] sleepFrom = new int[1 << MOST_CELLS];
    private final int[] bedOf = new int[MOST_MONKS];

    public OwedBell() {
        for (int i = 0; i < images.length; i++) {
            images[i] = new Image();
        }
        beginAnew();
    }

    /** All that an ABBEY takes with it when it comes. */
    private void beginAnew() {
        law.tenth();
        lines.clear();
        pairs.known = false;
        now.begin(facts);
        works.many = 0;
        imagesKept = 0;
        refusedSteps = 0;
    }

    // ---- texts ----

    public int feed(int a, int b, int c, int d, int e) {
        if (tape.bytes + 20 > TAPE_BYTES) {
            return NONE;
        }
        tape.append(a);
        tape.append(b);
        tape.append(c);
        tape.append(d);
        tape.append(e);
        return tape.bytes;
    }

    public int abbey(int n) throws IllegalArgumentException {
        needArgument(n >= 0 && n <= tape.bytes);
        tape.open(n);
        if (!spareFacts.readFrom(tape)) {
            return tape.fault - 10;
        }
        Facts read = spareFacts;
        spareFacts = facts;
        facts = read;
        beginAnew();
        return facts.monks;
    }

    public int law(int n) throws IllegalArgumentException {
        needArgument(n >= 0 && n <= TEXT_BYTES && n <= tape.bytes);
        tape.open(n);
        if (!spareLaw.readFrom(tape)) {
            return tape.fault - 10;
        }
        Law read = spareLaw;
        spareLaw = law;
        law = read;
        pairs.known = false;
        return 1;
    }

    public int work(int n) throws IllegalArgumentException {
        needArgument(n >= 0 && n <= TEXT_BYTES && n <= tape.bytes);
        if (works.many >= MOST_WORKS) {
            tape.open(0);
            return -20;
        }
        tape.open(n);
        if (!steps.readFrom(tape, facts)) {
            return tape.fault - 10;
        }
        works.push(now);
        steps.begun = 0;
        steps.done = 0;
        refusedSteps = 0;
        runSteps(0, steps.length, 0);
        return steps.done;
    }

    public int book(int n) throws IllegalArgumentException {
        needArgument(n >= 0 && n <= BOOK_BYTES && n <= tape.bytes);
        tape.open(n);
        if (!spareLines.readFrom(tape)) {
            return tape.fault - 10;
        }
        Book read = spareLines;
        spareLines = lines;
        lines = read;
        pairs.known = false;
        return lines.many;
    }

    public int fault() {
        return tape.place;
    }

    public int undo() {
        if (works.many <= 0) {
            return -1;
        }
        works.pop(now);
        refusedSteps = 0;
        return works.many;
    }

    // ---- what is so now ----

    public int told(int what) throws IllegalArgumentException {
        needArgument(what >= 0 && what <= 12);
        switch (what) {
            case 0: return now.owed;
            case 1: return now.chest;
            case 2: return now.night;
            case 3: return now.quiet;
            case 4: return now.paid;
            case 5: return now.wax;
            case 6: return now.receipt;
            case 7: return now.receiptNights;
            case 8: return now.struck;
            case 9: return now.woke;
            case 10: return lines.many;
            case 11: return refusedSteps;
            default: return now.fallen;
        }
    }

    public int many(int what) throws IllegalArgumentException {
        needArgument(what >= 0 && what <= 3);
        switch (what) {
            case 0: return facts.villages;
            case 1: return facts.cells;
            case 2: return facts.monks;
            default: return facts.heirs;
        }
    }

    public int monk(int monk, int what) throws NoSuchElementException, IllegalArgumentException {
        needOne(monk, facts.monks);
        needArgument(what >= 0 && what <= 3);
        switch (what) {
            case 0: return at(facts.light, monk);
            case 1: return at(now.cellOf, monk);
            case 2: return wakes(now, monk, strokesOf(now, 0)) ? 1 : 0;
            default: return at(now.wokeOf, monk);
        }
    }

    public int village(int village, int what) throws NoSuchElementException, IllegalArgumentException {
        needOne(village, facts.villages);
        needArgument(what >= 0 && what <= 1);
        return what == 0 ? at(facts.alms, village) : now.gave >> village & 1;
    }

    public int cell(int cell) throws NoSuchElementException {
        needOne(cell, facts.cells);
        return at(facts.far, cell);
    }

    public int heir(int heir) throws NoSuchElementException {
        needOne(heir, facts.heirs);
        return at(facts.claims, heir);
    }

    public int strokes() {
        return strokesOf(now, 0);
    }

    public int would(int asks, int paid, int night, int quiet, int wax, int storm, int chest)
            throws IllegalArgumentException {
        needArgument(asks >= 0 && asks <= MOST_OWED && paid >= 0 && paid <= 999);
        needArgument(night >= 0 && night <= LAST_NIGHT && quiet >= 0 && quiet <= 999);
        needArgument(wax >= 0 && wax <= 1 && storm >= 0 && storm <= 1);
        needArgument(chest >= 0 && chest <= MOST_CHEST);
        return law.tolls(asks, paid, night, quiet, wax, storm, chest);
    }

    public int noise(int cell, int strokes) throws NoSuchElementException, IllegalArgumentException {
        needOne(cell, facts.cells);
        needArgument(strokes >= 0 && strokes <= MOST_STROKES);
        return facts.loud(cell, strokes);
    }

    // ---- nights to come ----

    public int ahead(int n, int what) throws IllegalArgumentException {
        needArgument(n >= 0 && n <= 60 && what >= 0 && what <= 3);
        trial.take(now);
        int silent = 0;
        for (int i = 0; i < n; i++) {
            if (passNight(trial, 0) == 0) {
                silent++;
            }
        }
        switch (what) {
            case 0: return trial.struck - now.struck;
            case 1: return trial.owed;
            case 2: return trial.woke - now.woke;
            default: return silent;
        }
    }

    public int loudest(int what) throws IllegalArgumentException {
        needArgument(what >= 0 && what <= 1);
        trial.take(now);
        int most = NONE;
        int night = 0;
        for (int i = 0; i < NIGHTS_AHEAD; i++) {
            int strokes = passNight(trial, 0);
            if (strokes > most) {
                most = strokes;
                night = i;
            }
        }
        return what == 0 ? night : most;
    }

    public int hush(int b) throws IllegalArgumentException {
        needArgument(b >= 0 && b <= MOST_STROKES);
        for (int n = 0; n <= 999; n++) {
            trial.take(now);
            if (!trial.pays(n)) {
                return NONE;
            }
            if (strokesOf(trial, 0) <= b) {
                return n;
            }
        }
        return NONE;
    }

    public int plan(int n, int b, int bits, int what) throws IllegalArgumentException {
        needArgument(n >= 0 && n <= 5 && b >= 0 && b <= MOST_STROKES);
        needArgument(bits >= 0 && bits < (1 << n) && what >= 0 && what <= 1);
        int least = NONE;
        int leastRow = 0;
        // rows counted upwards are told NIGHT by NIGHT, less first
        for (int row = 0; row < (1 << (2 * n)); row++) {
            int tens = tensTogether(row, n);
            if ((least == NONE || tens < least) && staysQuiet(row, n, b, bits)) {
                least = tens;
                leastRow = row;
            }
        }
        if (least == NONE) {
            return NONE;
        }
        return what == 0 ? 10 * least : tensAsDigits(leastRow, n);
    }

    public int grows(int x) throws IllegalArgumentException {
        needArgument(x >= 0 && x <= MOST_OWED);
        trial.take(now);
        for (int i = 0; i <= NIGHTS_GROWING; i++) {
            if (trial.owed >= x) {
                return i;
            }
            passNight(trial, 0);
        }
        return NONE;
    }

    public int years(int seed, int nights, int q, int p, int k, int what) throws IllegalArgumentException {
        needYears(nights, q, p, k);
        needArgument(what >= 0 && what <= 3);
        int storms = runYears(seed, nights, q, p, k);
        switch (what) {
            case 0: return trial.owed;
            case 1: return trial.struck - now.struck;
            case 2: return trial.woke - now.woke;
            default: return storms;
        }
    }

    public int span(int seed, int many, int nights, int q, int p, int k, int what)
            throws IllegalArgumentException {
        needYears(nights, q, p, k);
        needArgument(many >= 1 && many <= 20 && what >= 0 && what <= 2);
        int least = MOST_OWED;
        int most = 0;
        int free = 0;
        for (int i = 0; i < many; i++) {
            runYears(seed + i, nights, q, p, k);
            least = Math.min(least, trial.owed);
            most = Math.max(most, trial.owed);
            if (trial.owed == 0) {
                free++;
            }
        }
        switch (what) {
            case 0: return least;
            case 1: return most;
            default: return free;
        }
    }

    // ---- strokes that were counted ----

    public int fits(int what) throws IllegalArgumentException {
        needArgument(what >= 0 && what <= 3);
        findFits();
        switch (what) {
            case 0: return pairs.many;
            case 1: return pairs.firstOwed;
            case 2: return pairs.firstRate;
            default: return pairs.owedMany;
        }
    }

    public int count(int what) throws IllegalArgumentException {
        needArgument(what >= 0 && what <= 1);
        findFits();
        return what == 0 ? pairs.night : pairs.worst;
    }

    // ---- receipts, true or false ----

    public long mistaken(int n, int p, int q, int t, int what, int part) throws IllegalArgumentException {
        needReceipt(n, p, q);
        needArgument(t >= 0 && t <= n + 1);
        needArgument(what >= 0 && what <= 1 && part >= 0 && part <= 1);
        long above = what == 0 ? dullWays(n, q, 0, t) : dullWays(n, p, t, n + 1);
        long below = power(16, n);
        // below is a power of 2, so that halving alone leads to least terms
        for (int i = 0; i < 32 && below > 1 && above % 2 == 0; i++) {
            above = above / 2;
            below = below / 2;
        }
        return part == 0 ? above : below;
    }

    public int best(int n, int p, int q) throws IllegalArgumentException {
        needReceipt(n, p, q);
        int bound = 0;
        long least = NONE;
        for (int t = 0; t <= n + 1; t++) {
            long both = dullWays(n, q, 0, t) + dullWays(n, p, t, n + 1);
            if (least == NONE || both < least) {
                least = both;
                bound = t;
            }
        }
        return bound;
    }

    // ---- monks, heirs, villages ----

    public int beds(int s) throws IllegalArgumentException {
        needArgument(s >= 0 && s <= MOST_STROKES);
        findBeds(s);
        return at(sleepFrom, 0);
    }

    public int bed(int monk, int s) throws NoSuchElementException, IllegalArgumentException {
        needOne(monk, facts.monks);
        needArgument(s >= 0 && s <= MOST_STROKES);
        findBeds(s);
        return at(bedOf, monk);
    }

    public int watch(int monk, int n) throws NoSuchElementException, IllegalArgumentException {
        needOne(monk, facts.monks);
        needArgument(n >= 0 && n <= 60);
        if (facts.monks <= 0) {
            return 0;
        }
        // all watch in turns, always in one order: the greatest L first, of alike ones the first
        int before = 0;
        for (int i = 0; i < facts.monks; i++) {
            int lighter = at(facts.light, i) - at(facts.light, monk);
            if (lighter > 0 || lighter == 0 && i < monk) {
                before++;
            }
        }
        return n / facts.monks + (before < n % facts.monks ? 1 : 0);
    }

    public int heirs(int k, int what) throws IllegalArgumentException {
        needArgument(k >= 0 && k <= 9 && what >= 0 && what <= 2);
        int ways = (int) power(k + 1, facts.heirs);
        int rests = 0;
        int digits = NONE;
        int together = 0;
        for (int way = 0; way < ways; way++) {
            int all = setBids(way, k + 1);
            if (!restsBy(all, k)) {
                continue;
            }
            if (rests == 0) {
                digits = bidsAsDigits();
                together = hadTogether(all);
            }
            rests++;
        }
        switch (what) {
            case 0: return rests;
            case 1: return digits;
            default: return together;
        }
    }

    public int sleepers(int s) throws IllegalArgumentException {
        needArgument(s >= 0 && s <= MOST_STROKES);
        int bits = 0;
        for (int i = 0; i < facts.monks; i++) {
            if (facts.sleeps(i, at(now.cellOf, i), s)) {
                bits |= 1 << i;
            }
        }
        return bits;
    }

    public int bears(int monk, int cell) throws NoSuchElementException {
        needOne(monk, facts.monks);
        needOne(cell, facts.cells);
        int most = 0;
        for (int s = 0; s <= MOST_STROKES && facts.sleeps(monk, cell, s); s++) {
            most = s;
        }
        return most;
    }

    public int level(int n) throws IllegalArgumentException {
        needArgument(n >= 0 && n <= 200);
        for (int bound = 0; bound <= 20; bound++) {
            int together = 0;
            for (int i = 0; i < facts.villages; i++) {
                together += Math.min(bound, at(facts.alms, i));
            }
            if (together >= n) {
                return bound;
            }
        }
        return NONE;
    }

    // ---- images, and what is kept ----

    public int image() {
        if (imagesKept < 0 || imagesKept >= images.length) {
            return -1;
        }
        images[imagesKept].take(now, works);
        imagesKept++;
        return imagesKept;
    }

    public int restore() {
        if (imagesKept <= 0 || imagesKept > images.length) {
            return -1;
        }
        imagesKept--;
        now.take(images[imagesKept].state);
        works.take(images[imagesKept].works);
        refusedSteps = 0;
        return imagesKept;
    }

    public int status(int what) {
        switch (what) {
            case 0: return missedCalls;
            case 1: return wrongCalls;
            default: return NONE;
        }
    }

    public int kept(int what) {
        switch (what) {
            case 0: return imagesKept;
            case 1: return tape.bytes;
            case 2: return works.many;
            default: return NONE;
        }
    }

    // ---- refusals ----

    private void needArgument(boolean fine) {
        if (!fine) {
            wrongCalls++;
            throw new IllegalArgumentException("an argument that is none such");
        }
    }

    private void needOne(int number, int many) {
        if (number < 0 || number >= many) {
            missedCalls++;
            throw new NoSuchElementException("there is no such one");
        }
    }

    private void needYears(int nights, int q, int p, int k) {
        needArgument(nights >= 1 && nights <= 96 && k >= 0 && k <= 99);
        needArgument(q >= 0 && q <= 16 && p >= 0 && p <= 16);
    }

    private void needReceipt(int n, int p, int q) {
        needArgument(n >= 0 && n <= 8 && p >= 0 && p <= 16 && q >= 0 && q <= 16);
    }

    // ---- rows ----

    private static int at(int[] row, int i) {
        return i >= 0 && i < row.length ? row[i] : 0;
    }

    private static void put(int[] row, int i, int value) {
        if (i >= 0 && i < row.length) {
            row[i] = value;
        }
    }

    // ---- nights ----

    private int strokesOf(State s, int storm) {
        int asks = Math.max(0, s.owed - s.receipt);
        int strokes = law.tolls(asks, s.paid, s.night, s.quiet, s.wax, storm, s.chest);
        return Math.min(MOST_STROKES, strokes + s.fallen);
    }

    private boolean wakes(State s, int monk, int strokes) {
        int noise = facts.loud(at(s.cellOf, monk), strokes);
        return (s.wax == 0 ? noise : noise / 2) > at(facts.light, monk);
    }

    private int passNight(State s, int storm) {
        int strokes = strokesOf(s, storm);
        for (int i = 0; i < facts.monks; i++) {
            if (wakes(s, i, strokes)) {
                s.woke++;
                put(s.wokeOf, i, at(s.wokeOf, i) + 1);
            }
        }
        s.turn(strokes, facts, facts.rate);
        return strokes;
    }

    private void runSteps(int from, int to, int depth) {
        if (depth > MOST_OPEN) {
            return;
        }
        for (int i = from; i < to && steps.begun < MOST_BEGUN; i = steps.behind(i)) {
            steps.begun++;
            if (at(steps.kinds, i) == AGAIN) {
                int times = at(steps.firsts, i);
                for (int k = 0; k < times && steps.begun < MOST_BEGUN; k++) {
                    runSteps(i + 1, steps.behind(i), depth + 1);
                }
            } else if (doStep(at(steps.kinds, i), at(steps.firsts, i), at(steps.seconds, i))) {
                steps.done++;
            } else {
                refusedSteps++;
            }
        }
    }

    private boolean doStep(int kind, int a, int b) {
        switch (kind) {
            case PAY: return now.pays(a);
            case ALMS: return now.gives(a, at(facts.alms, a));
            case WAX: return now.waxes();
            case RECEIPT: return now.hangUp(a);
            case SWAP: return now.swaps(a, b);
            default: break;
        }
        if (kind != NIGHT || now.night >= LAST_NIGHT) {
            return false;
        }
        passNight(now, 0);
        return true;
    }

    /** The NIGHTS go by in trial; answers how many storms there were. */
    private int runYears(int seed, int nights, int q, int p, int k) {
        trial.take(now);
        int drawn = seed;
        int storms = 0;
        for (int i = 0; i < nights; i++) {
            drawn = nextSeed(drawn);
            int storm = sixteenth(drawn) < q ? 1 : 0;
            storms += storm;
            drawn = nextSeed(drawn);
            if (sixteenth(drawn) >= p) {
                for (int v = 0; v < facts.villages; v++) {
                    trial.gives(v, at(facts.alms, v));
                }
            }
            trial.pays(Math.min(k, Math.min(trial.chest, trial.owed)));
            passNight(trial, storm);
        }
        return storms;
    }

    private static int nextSeed(int seed) {
        return seed * 1103515245 + 12345;
    }

    private static int sixteenth(int seed) {
        return (seed >>> 16 & 0x7fff) % 16;
    }

    // ---- plans ----

    /** Tens that are paid ahead of NIGHT i: a row holds two bits for each NIGHT, the first the highest. */
    private static int tensOf(int row, int n, int i) {
        int choice = row >> (2 * (n - 1 - i)) & 3;
        return choice == 3 ? 4 : choice;
    }

    private static int tensTogether(int row, int n) {
        int tens = 0;
        for (int i = 0; i < n; i++) {
            tens += tensOf(row, n, i);
        }
        return tens;
    }

    private static int tensAsDigits(int row, int n) {
        int digits = 0;
        for (int i = 0; i < n; i++) {
            digits = 10 * digits + tensOf(row, n, i);
        }
        return digits;
    }

    private boolean staysQuiet(int row, int n, int b, int bits) {
        trial.take(now);
        for (int i = 0; i < n; i++) {
            if (!trial.pays(10 * tensOf(row, n, i))) {
                return false;
            }
            int strokes = passNight(trial, 0);
            if ((bits >> i & 1) == 1 && strokes > b) {
                return false;
            }
        }
        return true;
    }

    // ---- fits ----

    private void findFits() {
        if (pairs.known) {
            return;
        }
        pairs.clear();
        for (int owed = 0; owed < FITS_OWED; owed++) {
            boolean any = false;
            for (int rate = 0; rate < FITS_RATES; rate++) {
                if (isRight(owed, rate)) {
                    any = true;
                    pairs.add(owed, rate);
                }
            }
            if (any) {
                pairs.owedMany++;
            }
        }
        pairs.choose(lines);
        pairs.known = true;
    }

    /** Whether all lines are right; then pairs.heard holds what it strikes in each NIGHT. */
    private boolean isRight(int owed, int rate) {
        trial.begin(facts);
        trial.owed = owed;
        for (int night = 0; night < BOOK_NIGHTS; night++) {
            int strokes = strokesOf(trial, 0);
            int counted = at(lines.counted, night);
            if (counted != NONE && counted != strokes) {
                return false;
            }
            put(pairs.heard, night, strokes);
            trial.turn(strokes, facts, rate);
        }
        return true;
    }

    // ---- receipts ----

    /** Of 16 to the n ways how many have from or more, but fewer than to strokes dull. */
    private static long dullWays(int n, int chance, int from, int to) {
        long ways = 0;
        for (int dull = from; dull < to; dull++) {
            ways += choices(n, dull) * power(chance, dull) * power(16 - chance, n - dull);
        }
        return ways;
    }

    private static long choices(int n, int k) {
        long ways = 1;
        // the divisor is 1 at least, and leaves nothing each time
        for (int i = 1; i <= k; i++) {
            ways = ways * (n + 1 - i) / i;
        }
        return ways;
    }

    private static long power(int base, int times) {
        long product = 1;
        for (int i = 0; i < times; i++) {
            product *= base;
        }
        return product;
    }

    // ---- beds ----

    /** sleepFrom, by taken CELLS as bits: how many of the MONKS not yet in bed can sleep. */
    private void findBeds(int s) {
        int sets = 1 << Math.min(facts.cells, MOST_CELLS);
        for (int taken = sets - 1; taken >= 0; taken--) {
            int monk = Integer.bitCount(taken);
            int most = 0;
            for (int c = 0; c < facts.cells && monk < facts.monks; c++) {
                if ((taken >> c & 1) == 0) {
                    most = Math.max(most, sleepWith(monk, c, taken, s));
                }
            }
            put(sleepFrom, taken, most);
        }
        int taken = 0;
        for (int monk = 0; monk < facts.monks; monk++) {
            int c = leastBed(monk, taken, s);
            put(bedOf, monk, c);
            taken |= 1 << c;
        }
    }

    private int sleepWith(int monk, int c, int taken, int s) {
        return (facts.sleeps(monk, c, s) ? 1 : 0) + at(sleepFrom, taken | 1 << c);
    }

    private int leastBed(int monk, int taken, int s) {
        for (int c = 0; c < facts.cells; c++) {
            if ((taken >> c & 1) == 0 && sleepWith(monk, c, taken, s) == at(sleepFrom, taken)) {
                return c;
            }
        }
        return 0;
    }

    // ---- heirs ----

    /** Sets each bid, in tens, from the way's digits (HEIR 0 the highest); answers all bids together, in crowns. */
    private int setBids(int way, int base) {
        int rest = way;
        int all = 0;
        for (int i = facts.heirs - 1; i >= 0 && base > 0; i--) {
            put(bids, i, rest % base);
            all += 10 * at(bids, i);
            rest = rest / base;
        }
        return all;
    }

    private boolean restsBy(int all, int k) {
        for (int i = 0; i < facts.heirs; i++) {
            int room = now.owed - (all - 10 * at(bids, i));
            int most = room < 0 ? 0 : 10 * Math.min(k, room / 10);
            if (had(i, all) < Math.min(most, at(facts.claims, i))) {
                return false;
            }
        }
        return true;
    }

    private int had(int i, int all) {
        return all > now.owed ? 0 : Math.min(10 * at(bids, i), at(facts.claims, i));
    }

    private int hadTogether(int all) {
        int together = 0;
        for (int i = 0; i < facts.heirs; i++) {
            together += had(i, all);
        }
        return together;
    }

    private int bidsAsDigits() {
        int digits = 0;
        for (int i = 0; i < facts.heirs; i++) {
            digits = 10 * digits + at(bids, i);
        }
        return digits;
    }

    /** The TAPE, and the reading of its first bytes as one text, from the left up to the first FAULT. */
    private static final class Tape {
        final int[] text = new int[TAPE_BYTES];
        int bytes;
        int end;
        int next;
        int fault;
        int place = NONE;
        int wordStart;
        int numberStart;

        void append(int number) {
            for (int shift = 24; shift >= 0; shift -= 8) {
                put(text, bytes, number >>> shift & 255);
                bytes++;
            }
        }

        /** Begins to read the first n bytes; the TAPE is empty from now on. */
        void open(int n) {
            end = n;
            next = 0;
            fault = 0;
            place = NONE;
            bytes = 0;
        }

        /** Keeps the first FAULT alone; answers false, so that a reader can hand it on. */
        boolean fails(int kind, int where) {
            if (fault == 0) {
                fault = kind;
                place = where;
            }
            return false;
        }

        /** What stands behind the blanks, or NONE at the end. */
        int sign() {
            while (next < end && at(text, next) == ' ') {
                next++;
            }
            return next < end ? at(text, next) : NONE;
        }

        boolean takes(int wanted) {
            if (sign() != wanted) {
                return fails(CANNOT_STAND, next);
            }
            next++;
            return fault == 0;
        }

        int number(int least, int most) {
            if (!isDigit(sign())) {
                fails(CANNOT_STAND, next);
                return NONE;
            }
            numberStart = next;
            int value = 0;
            while (next < end && isDigit(at(text, next))) {
                // far above all that may be told, so that many digits do not wrap
                value = Math.min(1000000, 10 * value + at(text, next) - '0');
                next++;
            }
            if (value < least || value > most) {
                fails(NO_SUCH_NUMBER, numberStart);
                return NONE;
            }
            return value;
        }

        /** Passes over the small letters that stand there; isWord looks at them. */
        void word() {
            sign();
            wordStart = next;
            while (next < end && at(text, next) >= 'a' && at(text, next) <= 'z') {
                next++;
            }
        }

        boolean isWord(String wanted) {
            if (next - wordStart != wanted.length()) {
                return false;
            }
            for (int i = 0; i < wanted.length(); i++) {
                if (at(text, wordStart + i) != wanted.charAt(i)) {
                    return false;
                }
            }
            return true;
        }

        static boolean isDigit(int sign) {
            return sign >= '0' && sign <= '9';
        }
    }

    /** What an ABBEY tells. */
    private static final class Facts {
        int owe;
        int rate;
        int chest;
        int villages;
        int cells;
        int monks;
        int heirs;
        final int[] harvests = new int[YEAR];
        final int[] alms = new int[MOST_VILLAGES];
        final int[] far = new int[MOST_CELLS];
        final int[] light = new int[MOST_MONKS];
        final int[] claims = new int[MOST_HEIRS];

        Facts() {
            clear();
        }

        void clear() {
            owe = 100;
            rate = 5;
            chest = 0;
            villages = 0;
            cells = 0;
            monks = 0;
            heirs = 0;
            for (int i = 0; i < harvests.length; i++) {
                harvests[i] = 0;
            }
        }

        boolean readFrom(Tape tape) {
            clear();
            for (int clause = 0; clause < TAPE_BYTES && tape.sign() != NONE; clause++) {
                if (!readClause(tape, clause >= MOST_CLAUSES)) {
                    return false;
                }
            }
            return tape.fault == 0;
        }

        private boolean readClause(Tape tape, boolean behindLast) {
            tape.word();
            int kind = clauseKind(tape);
            if (kind == 0) {
                return tape.fails(CANNOT_STAND, tape.wordStart);
            }
            if (behindLast || isFull(kind)) {
                return tape.fails(TOO_MANY, tape.wordStart);
            }
            readNumbers(tape, kind);
            return tape.takes(';');
        }

        private static int clauseKind(Tape tape) {
            if (tape.isWord("owe")) {
                return OWE;
            } else if (tape.isWord("rate")) {
                return RATE;
            } else if (tape.isWord("chest")) {
                return CHEST;
            } else if (tape.isWord("harvest")) {
                return HARVEST;
            } else if (tape.isWord("village")) {
                return VILLAGE;
            } else if (tape.isWord("cell")) {
                return CELL;
            } else if (tape.isWord("monk")) {
                return MONK;
            }
            return tape.isWord("heir") ? HEIR : 0;
        }

        private boolean isFull(int kind) {
            switch (kind) {
                case VILLAGE: return villages >= MOST_VILLAGES;
                case CELL: return cells >= MOST_CELLS;
                case MONK: return monks >= MOST_MONKS || monks >= cells;
                case HEIR: return heirs >= MOST_HEIRS;
                default: return false;
            }
        }

        private void readNumbers(Tape tape, int kind) {
            switch (kind) {
                case OWE:
                    owe = tape.number(0, 9999);
                    break;
                case RATE:
                    rate = tape.number(0, 20);
                    break;
                case CHEST:
                    chest = tape.number(0, 999);
                    break;
                case HARVEST:
                    int month = tape.number(0, 11);
                    put(harvests, month, tape.number(0, 99));
                    break;
                case VILLAGE:
                    put(alms, villages, tape.number(1, 20));
                    villages++;
                    break;
                case CELL:
                    put(far, cells, tape.number(0, 9));
                    cells++;
                    break;
                case MONK:
                    put(light, monks, tape.number(0, 40));
                    monks++;
                    break;
                default:
                    put(claims, heirs, tape.number(1, 99));
                    heirs++;
                    break;
            }
        }

        /** NOISE of a CELL without wax. */
        int loud(int c, int strokes) {
            int parts = 1 + at(far, c);
            return parts > 0 ? strokes / parts : strokes;
        }

        boolean sleeps(int monk, int c, int strokes) {
            return loud(c, strokes) <= at(light, monk);
        }
    }

    /** A LAW as code for a stack: what is done stands behind what it is done to. */
    private static final class Law {
        final int[] code = new int[TEXT_BYTES];
        final int[] input = new int[INPUTS];
        final int[] stack = new int[STACK];
        int length;

        /** The LAW without a text: asks / 10. */
        void tenth() {
            length = 0;
            emit(INPUT);
            emit(10);
            emit(OVER);
        }

        boolean readFrom(Tape tape) {
            length = 0;
            if (!readSum(tape, 0)) {
                return false;
            }
            return tape.sign() == NONE || tape.fails(CANNOT_STAND, tape.next);
        }

        private void emit(int one) {
            put(code, length, one);
            length++;
        }

        private boolean readSum(Tape tape, int open) {
            if (!readProduct(tape, open)) {
                return false;
            }
            for (int i = 0; i < TEXT_BYTES; i++) {
                int sign = tape.sign();
                if (sign != '+' && sign != '-') {
                    return true;
                }
                tape.next++;
                if (!readProduct(tape, open)) {
                    return false;
                }
                emit(sign == '+' ? PLUS : MINUS);
            }
            return true;
        }

        private boolean readProduct(Tape tape, int open) {
            if (!readUnit(tape, open)) {
                return false;
            }
            for (int i = 0; i < TEXT_BYTES; i++) {
                int sign = tape.sign();
                if (sign != '*' && sign != '/' && sign != '%') {
                    return true;
                }
                tape.next++;
                if (!readUnit(tape, open)) {
                    return false;
                }
                emit(sign == '*' ? TIMES : sign == '/' ? OVER : LEFT);
            }
            return true;
        }

        private boolean readUnit(Tape tape, int open) {
            int sign = tape.sign();
            if (Tape.isDigit(sign)) {
                emit(tape.number(0, 999));
                return tape.fault == 0;
            }
            if (sign == '(') {
                if (open >= MOST_OPEN) {
                    return tape.fails(TOO_MANY, tape.next);
                }
                tape.next++;
                return readSum(tape, open + 1) && tape.takes(')');
            }
            tape.word();
            boolean least = tape.isWord("least");
            if (least || tape.isWord("most")) {
                if (open >= MOST_OPEN) {
                    return tape.fails(TOO_MANY, tape.wordStart);
                }
                boolean read = tape.takes('[') && readSum(tape, open + 1)
                        && tape.takes(',') && readSum(tape, open + 1) && tape.takes(']');
                emit(least ? LEAST : MOST);
                return read;
            }
            int told = inputOf(tape);
            if (told == NONE) {
                return tape.fails(CANNOT_STAND, tape.wordStart);
            }
            emit(INPUT + told);
            return true;
        }

        private static int inputOf(Tape tape) {
            if (tape.isWord("asks")) {
                return 0;
            } else if (tape.isWord("paid")) {
                return 1;
            } else if (tape.isWord("night")) {
                return 2;
            } else if (tape.isWord("quiet")) {
                return 3;
            } else if (tape.isWord("wax")) {
                return 4;
            } else if (tape.isWord("storm")) {
                return 5;
            }
            return tape.isWord("chest") ? 6 : NONE;
        }

        /** STROKES by the LAW alone. */
        int tolls(int asks, int paid, int night, int quiet, int wax, int storm, int chest) {
            put(input, 0, asks);
            put(input, 1, paid);
            put(input, 2, night);
            put(input, 3, quiet);
            put(input, 4, wax);
            put(input, 5, storm);
            put(input, 6, chest);
            int top = 0;
            for (int i = 0; i < length; i++) {
                int one = at(code, i);
                if (one >= PLUS) {
                    top--;
                    put(stack, top - 1, done(one, at(stack, top - 1), at(stack, top)));
                } else {
                    put(stack, top, one < INPUT ? one : at(input, one - INPUT));
                    top++;
                }
            }
            return Math.max(0, Math.min(MOST_STROKES, at(stack, 0)));
        }

        private static int done(int what, int a, int b) {
            switch (what) {
                case PLUS: return a + b;
                case MINUS: return a - b;
                case TIMES: return a * b;
                case OVER: return b == 0 ? 0 : a / b;
                case LEFT: return b == 0 ? 0 : a % b;
                case LEAST: return Math.min(a, b);
                default: return Math.max(a, b);
            }
        }
    }

    /** A BOOK: for each NIGHT what was counted, or NONE. */
    private static final class Book {
        final int[] counted = new int[BOOK_NIGHTS];
        int many;

        void clear() {
            many = 0;
            for (int i = 0; i < counted.length; i++) {
                counted[i] = NONE;
            }
        }

        boolean readFrom(Tape tape) {
            clear();
            for (int line = 0; line < BOOK_BYTES && tape.sign() != NONE; line++) {
                if (!readLine(tape)) {
                    return false;
                }
            }
            return tape.fault == 0;
        }

        private boolean readLine(Tape tape) {
            int night = tape.number(0, BOOK_NIGHTS - 1);
            if (night == NONE) {
                return false;
            }
            if (at(counted, night) != NONE) {
                return tape.fails(NO_SUCH_NUMBER, tape.numberStart);
            }
            if (many >= MOST_LINES) {
                return tape.fails(TOO_MANY, tape.numberStart);
            }
            put(counted, night, tape.number(0, MOST_STROKES));
            many++;
            return tape.takes(';');
        }
    }

    /** WORK as rows; of an again, seconds tells where its STEPS end. */
    private static final class Steps {
        final int[] kinds = new int[TEXT_BYTES];
        final int[] firsts = new int[TEXT_BYTES];
        final int[] seconds = new int[TEXT_BYTES];
        int length;
        int begun;
        int done;

        boolean readFrom(Tape tape, Facts facts) {
            length = 0;
            return readRow(tape, facts, 0);
        }

        private boolean readRow(Tape tape, Facts facts, int open) {
            int last = open > 0 ? ']' : NONE;
            for (int i = 0; i < TEXT_BYTES && tape.sign() != last; i++) {
                if (!readStep(tape, facts, open)) {
                    return false;
                }
            }
            return tape.fault == 0;
        }

        private boolean readStep(Tape tape, Facts facts, int open) {
            tape.word();
            int kind = stepKind(tape);
            if (kind == 0) {
                return tape.fails(CANNOT_STAND, tape.wordStart);
            }
            if (kind == AGAIN && open >= MOST_OPEN) {
                return tape.fails(TOO_MANY, tape.wordStart);
            }
            int me = length;
            length++;
            put(kinds, me, kind);
            readNumbers(tape, facts, me, kind);
            if (kind == AGAIN) {
                if (!tape.takes('[') || !readRow(tape, facts, open + 1) || !tape.takes(']')) {
                    return false;
                }
                put(seconds, me, length);
            }
            return tape.takes(';');
        }

        private void readNumbers(Tape tape, Facts facts, int me, int kind) {
            switch (kind) {
                case PAY:
                case RECEIPT:
                    put(firsts, me, tape.number(1, 999));
                    break;
                case ALMS:
                    put(firsts, me, tape.number(0, facts.villages - 1));
                    break;
                case SWAP:
                    put(firsts, me, tape.number(0, facts.monks - 1));
                    put(seconds, me, tape.number(0, facts.monks - 1));
                    break;
                case AGAIN:
                    put(firsts, me, tape.number(0, 30));
                    break;
                default:
                    break;
            }
        }

        private static int stepKind(Tape tape) {
            if (tape.isWord("pay")) {
                return PAY;
            } else if (tape.isWord("alms")) {
                return ALMS;
            } else if (tape.isWord("wax")) {
                return WAX;
            } else if (tape.isWord("receipt")) {
                return RECEIPT;
            } else if (tape.isWord("swap")) {
                return SWAP;
            } else if (tape.isWord("night")) {
                return NIGHT;
            }
            return tape.isWord("again") ? AGAIN : 0;
        }

        int behind(int i) {
            return at(kinds, i) == AGAIN ? at(seconds, i) : i + 1;
        }
    }

    /** All that WORK changes. */
    private static final class State {
        int owed;
        int chest;
        int night;
        int quiet;
        int paid;
        int wax;
        int receipt;
        int receiptNights;
        int fallen;
        int gave;
        int struck;
        int woke;
        final int[] cellOf = new int[MOST_MONKS];
        final int[] wokeOf = new int[MOST_MONKS];

        void begin(Facts facts) {
            owed = facts.owe;
            chest = facts.chest;
            night = 0;
            quiet = 0;
            paid = 0;
            wax = 0;
            receipt = 0;
            receiptNights = 0;
            fallen = 0;
            gave = 0;
            struck = 0;
            woke = 0;
            for (int i = 0; i < MOST_MONKS; i++) {
                put(cellOf, i, i);
                put(wokeOf, i, 0);
            }
        }

        void take(State other) {
            owed = other.owed;
            chest = other.chest;
            night = other.night;
            quiet = other.quiet;
            paid = other.paid;
            wax = other.wax;
            receipt = other.receipt;
            receiptNights = other.receiptNights;
            fallen = other.fallen;
            gave = other.gave;
            struck = other.struck;
            woke = other.woke;
            for (int i = 0; i < MOST_MONKS; i++) {
                put(cellOf, i, at(other.cellOf, i));
                put(wokeOf, i, at(other.wokeOf, i));
            }
        }

        // each of these answers false, and changes nothing, if the STEP is REFUSED

        boolean pays(int n) {
            if (n > chest || n > owed) {
                return false;
            }
            chest -= n;
            owed -= n;
            paid += n;
            return true;
        }

        boolean gives(int village, int crowns) {
            if ((gave >> village & 1) == 1) {
                return false;
            }
            gave |= 1 << village;
            chest = Math.min(MOST_CHEST, chest + crowns);
            return true;
        }

        boolean waxes() {
            if (wax == 1) {
                return false;
            }
            wax = 1;
            return true;
        }

        boolean hangUp(int n) {
            if (receipt > 0) {
                return false;
            }
            receipt = n;
            receiptNights = HANGING_NIGHTS;
            return true;
        }

        boolean swaps(int a, int b) {
            if (a == b) {
                return false;
            }
            int cellOfA = at(cellOf, a);
            put(cellOf, a, at(cellOf, b));
            put(cellOf, b, cellOfA);
            return true;
        }

        /** What a NIGHT changes behind its STROKES; the rate is told apart, as FITS try others. */
        void turn(int strokes, Facts facts, int rate) {
            struck += strokes;
            quiet = strokes == 0 ? quiet + 1 : 0;
            wax = 0;
            gave = 0;
            paid = 0;
            takeDown();
            int month = night % YEAR;
            chest = Math.min(MOST_CHEST, chest + at(facts.harvests, month));
            if (month == YEAR - 1) {
                owed = Math.min(MOST_OWED, owed + owed * rate / 100);
            }
            night++;
        }

        private void takeDown() {
            fallen = 0;
            if (receipt == 0) {
                return;
            }
            receiptNights--;
            if (receiptNights <= 0) {
                fallen = receipt;
                receipt = 0;
                receiptNights = 0;
            }
        }
    }

    /** What was so ahead of each WORK that can be undone. */
    private static final class Works {
        final State[] before = new State[MOST_WORKS];
        int many;

        Works() {
            for (int i = 0; i < before.length; i++) {
                before[i] = new State();
            }
        }

        void push(State state) {
            if (many >= 0 && many < before.length) {
                before[many].take(state);
                many++;
            }
        }

        void pop(State state) {
            if (many > 0 && many <= before.length) {
                many--;
                state.take(before[many]);
            }
        }

        void take(Works other) {
            many = other.many;
            for (int i = 0; i < many && i < before.length && i < other.before.length; i++) {
                before[i].take(other.before[i]);
            }
        }
    }

    /** An IMAGE. */
    private static final class Image {
        final State state = new State();
        final Works works = new Works();

        void take(State otherState, Works otherWorks) {
            state.take(otherState);
            works.take(otherWorks);
        }
    }

    /** FITS, and COUNT; known until ABBEY, LAW or BOOK is another one. */
    private static final class Fits {
        boolean known;
        int many;
        int firstOwed;
        int firstRate;
        int owedMany;
        int night;
        int worst;
        final int[] heard = new int[BOOK_NIGHTS];
        // by NIGHT and strokes: how many FITS strike so
        final int[][] alike = new int[BOOK_NIGHTS][MOST_STROKES + 1];

        void clear() {
            many = 0;
            firstOwed = NONE;
            firstRate = NONE;
            owedMany = 0;
            for (int i = 0; i < alike.length; i++) {
                for (int s = 0; s < alike[i].length; s++) {
                    alike[i][s] = 0;
                }
            }
        }

        void add(int owed, int rate) {
            if (many == 0) {
                firstOwed = owed;
                firstRate = rate;
            }
            many++;
            for (int i = 0; i < alike.length; i++) {
                int strokes = at(heard, i);
                put(alike[i], strokes, at(alike[i], strokes) + 1);
            }
        }

        void choose(Book lines) {
            night = NONE;
            worst = NONE;
            for (int i = 0; i < alike.length; i++) {
                if (at(lines.counted, i) != NONE) {
                    continue;
                }
                int most = 0;
                for (int s = 0; s < alike[i].length; s++) {
                    most = Math.max(most, alike[i][s]);
                }
                if (night == NONE || most < worst) {
                    night = i;
                    worst = most;
                }
            }
        }
    }
}
