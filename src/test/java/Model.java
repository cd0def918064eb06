import java.util.ArrayList;
import java.util.Arrays;
import java.util.List;
import java.util.NoSuchElementException;

/**
 * The document read a second time, as plainly as the Java library lets it be written: every answer is reckoned anew
 * from copies, by trying all ways. ModelTest holds OwedBell against it.
 */
final class Model {
    interface Value {
        int of(int[] told);
    }

    private static final class Fault extends RuntimeException {
        final int kind;
        final int place;

        Fault(int kind, int place) {
            this.kind = kind;
            this.place = place;
        }
    }

    /** A text from the left: blanks are passed over ahead of words, numbers and signs. */
    private static final class Text {
        final String text;
        int p;

        Text(String text) {
            this.text = text;
        }

        char next() {
            while (p < text.length() && text.charAt(p) == ' ') {
                p++;
            }
            return p < text.length() ? text.charAt(p) : '\uffff';
        }

        boolean atEnd() {
            return next() == '\uffff';
        }

        String word() {
            next();
            int from = p;
            while (p < text.length() && text.substring(p, p + 1).matches("[a-z]")) {
                p++;
            }
            return text.substring(from, p);
        }

        int number(int least, int most) {
            if (!Character.toString(next()).matches("[0-9]")) {
                throw new Fault(1, p);
            }
            int from = p;
            while (p < text.length() && text.substring(p, p + 1).matches("[0-9]")) {
                p++;
            }
            java.math.BigInteger n = new java.math.BigInteger(text.substring(from, p));
            if (n.compareTo(java.math.BigInteger.valueOf(least)) < 0 || n.compareTo(java.math.BigInteger.valueOf(most)) > 0) {
                throw new Fault(2, from);
            }
            return n.intValue();
        }

        void sign(char wanted) {
            if (next() != wanted) {
                throw new Fault(1, p);
            }
            p++;
        }
    }

    private static final class Abbey {
        int owe = 100;
        int rate = 5;
        int chest;
        final int[] harvest = new int[12];
        final List<Integer> villages = new ArrayList<>();
        final List<Integer> cells = new ArrayList<>();
        final List<Integer> monks = new ArrayList<>();
        final List<Integer> heirs = new ArrayList<>();
    }

    private static final class Step {
        final String word;
        final int a;
        final int b;
        final List<Step> inner;

        Step(String word, int a, int b, List<Step> inner) {
            this.word = word;
            this.a = a;
            this.b = b;
            this.inner = inner;
        }
    }

    /** All that WORK changes. */
    private static final class State {
        int owed;
        int chest;
        int night;
        int quiet;
        int paid;
        int wax;
        int hangs;
        int hangsFrom;
        int down;
        int struck;
        int[] cell = {0, 1, 2, 3, 4, 5, 6, 7};
        int[] woke = new int[8];
        boolean[] gave = new boolean[6];

        State copy() {
            State s = new State();
            s.owed = owed;
            s.chest = chest;
            s.night = night;
            s.quiet = quiet;
            s.paid = paid;
            s.wax = wax;
            s.hangs = hangs;
            s.hangsFrom = hangsFrom;
            s.down = down;
            s.struck = struck;
            s.cell = cell.clone();
            s.woke = woke.clone();
            s.gave = gave.clone();
            return s;
        }
    }

    private static final class Image {
        final State state;
        final List<State> undone;

        Image(State state, List<State> undone) {
            this.state = state;
            this.undone = undone;
        }
    }

    private String tape = "";
    private int faultPlace = -1;
    private Abbey abbey = new Abbey();
    private Value law = told -> told[0] / 10;
    private int[][] book = new int[0][];
    private State now = begun(abbey.owe);
    private List<State> undone = new ArrayList<>();
    private List<Image> images = new ArrayList<>();
    private int refused;
    private int begun;
    private int done;
    private int none;
    private int bad;

    private State begun(int owe) {
        State s = new State();
        s.owed = owe;
        s.chest = abbey.chest;
        return s;
    }

    private void need(boolean so) {
        if (!so) {
            bad++;
            throw new IllegalArgumentException();
        }
    }

    private void need(boolean so, int value, int least, int most) {
        need(so && value >= least && value <= most);
    }

    private int one(List<Integer> row, int i) {
        if (i < 0 || i >= row.size()) {
            none++;
            throw new NoSuchElementException();
        }
        return row.get(i);
    }

    // ---- texts ----

    int feed(int... numbers) {
        if (tape.length() > 580) {
            return -1;
        }
        for (int n : numbers) {
            tape += "" + (char) (n >>> 24) + (char) (n >> 16 & 255) + (char) (n >> 8 & 255) + (char) (n & 255);
        }
        return tape.length();
    }

    private Text taken(int n, int most) {
        need(n >= 0 && n <= most && n <= tape.length());
        Text text = new Text(tape.substring(0, n));
        tape = "";
        faultPlace = -1;
        return text;
    }

    private int failed(Fault f) {
        faultPlace = f.place;
        return f.kind - 10;
    }

    int abbey(int n) {
        Text text = taken(n, 600);
        Abbey read = new Abbey();
        try {
            for (int i = 0; !text.atEnd(); i++) {
                clause(text, read, i);
            }
        } catch (Fault f) {
            return failed(f);
        }
        abbey = read;
        now = begun(abbey.owe);
        law = told -> told[0] / 10;
        book = new int[0][];
        undone = new ArrayList<>();
        images = new ArrayList<>();
        refused = 0;
        return abbey.monks.size();
    }

    private static void clause(Text text, Abbey a, int i) {
        text.next();
        int at = text.p;
        String word = text.word();
        if (!List.of("owe", "rate", "chest", "harvest", "village", "cell", "monk", "heir").contains(word)) {
            throw new Fault(1, at);
        }
        boolean full = word.equals("village") && a.villages.size() == 6 || word.equals("cell") && a.cells.size() == 8
                || word.equals("monk") && a.monks.size() == Math.min(8, a.cells.size()) || word.equals("heir") && a.heirs.size() == 4;
        if (i >= 60 || full) {
            throw new Fault(3, at);
        }
        switch (word) {
            case "owe" -> a.owe = text.number(0, 9999);
            case "rate" -> a.rate = text.number(0, 20);
            case "chest" -> a.chest = text.number(0, 999);
            case "village" -> a.villages.add(text.number(1, 20));
            case "cell" -> a.cells.add(text.number(0, 9));
            case "monk" -> a.monks.add(text.number(0, 40));
            case "heir" -> a.heirs.add(text.number(1, 99));
            default -> {
                int m = text.number(0, 11);
                a.harvest[m] = text.number(0, 99);
            }
        }
        text.sign(';');
    }

    int law(int n) {
        Text text = taken(n, 150);
        try {
            Value read = sum(text, 0);
            if (!text.atEnd()) {
                throw new Fault(1, text.p);
            }
            law = read;
        } catch (Fault f) {
            return failed(f);
        }
        return 1;
    }

    private static Value sum(Text text, int open) {
        Value left = product(text, open);
        while (text.next() == '+' || text.next() == '-') {
            char sign = text.next();
            text.p++;
            Value a = left;
            Value b = product(text, open);
            left = told -> sign == '+' ? a.of(told) + b.of(told) : a.of(told) - b.of(told);
        }
        return left;
    }

    private static Value product(Text text, int open) {
        Value left = unit(text, open);
        while (text.next() == '*' || text.next() == '/' || text.next() == '%') {
            char sign = text.next();
            text.p++;
            Value a = left;
            Value b = unit(text, open);
            left = told -> {
                int x = a.of(told);
                int y = b.of(told);
                return sign == '*' ? x * y : y == 0 ? 0 : sign == '/' ? x / y : x % y;
            };
        }
        return left;
    }

    private static Value unit(Text text, int open) {
        char next = text.next();
        int at = text.p;
        if (next >= '0' && next <= '9') {
            int n = text.number(0, 999);
            return told -> n;
        }
        if (next == '(') {
            if (open == 6) {
                throw new Fault(3, at);
            }
            text.p++;
            Value inner = sum(text, open + 1);
            text.sign(')');
            return inner;
        }
        String word = text.word();
        if (word.equals("least") || word.equals("most")) {
            if (open == 6) {
                throw new Fault(3, at);
            }
            text.sign('[');
            Value a = sum(text, open + 1);
            text.sign(',');
            Value b = sum(text, open + 1);
            text.sign(']');
            return told -> word.equals("least") ? Math.min(a.of(told), b.of(told)) : Math.max(a.of(told), b.of(told));
        }
        int which = List.of("asks", "paid", "night", "quiet", "wax", "storm", "chest").indexOf(word);
        if (which < 0) {
            throw new Fault(1, at);
        }
        return told -> told[which];
    }

    int book(int n) {
        Text text = taken(n, 100);
        List<int[]> lines = new ArrayList<>();
        try {
            while (!text.atEnd()) {
                int at = text.p;
                int night = text.number(0, 59);
                for (int[] line : lines) {
                    if (line[0] == night) {
                        throw new Fault(2, at);
                    }
                }
                if (lines.size() == 8) {
                    throw new Fault(3, at);
                }
                lines.add(new int[] {night, text.number(0, 999)});
                text.sign(';');
            }
        } catch (Fault f) {
            return failed(f);
        }
        book = lines.toArray(new int[0][]);
        return book.length;
    }

    int work(int n) {
        Text text = taken(n, 150);
        if (undone.size() == 16) {
            return -20;
        }
        List<Step> steps;
        try {
            steps = steps(text, 0);
        } catch (Fault f) {
            return failed(f);
        }
        undone.add(now.copy());
        refused = 0;
        begun = 0;
        done = 0;
        run(steps);
        return done;
    }

    private List<Step> steps(Text text, int open) {
        List<Step> steps = new ArrayList<>();
        while (open == 0 ? !text.atEnd() : text.next() != ']') {
            text.next();
            int at = text.p;
            String word = text.word();
            int a = 0;
            int b = 0;
            List<Step> inner = null;
            switch (word) {
                case "pay", "receipt" -> a = text.number(1, 999);
                case "alms" -> a = text.number(0, abbey.villages.size() - 1);
                case "swap" -> {
                    a = text.number(0, abbey.monks.size() - 1);
                    b = text.number(0, abbey.monks.size() - 1);
                }
                case "again" -> {
                    if (open == 6) {
                        throw new Fault(3, at);
                    }
                    a = text.number(0, 30);
                    text.sign('[');
                    inner = steps(text, open + 1);
                    text.sign(']');
                }
                case "wax", "night" -> { }
                default -> throw new Fault(1, at);
            }
            text.sign(';');
            steps.add(new Step(word, a, b, inner));
        }
        return steps;
    }

    private void run(List<Step> steps) {
        for (Step step : steps) {
            if (begun == 200) {
                return;
            }
            begun++;
            if (step.inner != null) {
                for (int i = 0; i < step.a; i++) {
                    run(step.inner);
                }
            } else if (does(now, step.word, step.a, step.b)) {
                done++;
            } else {
                refused++;
            }
        }
    }

    /** Does a STEP, or answers false and changes nothing. */
    private boolean does(State s, String word, int a, int b) {
        boolean can = switch (word) {
            case "pay" -> s.chest >= a && s.owed >= a;
            case "alms" -> !s.gave[a];
            case "wax" -> s.wax == 0;
            case "receipt" -> s.hangs == 0;
            case "swap" -> a != b;
            default -> s.night < 999;
        };
        if (!can) {
            return false;
        }
        switch (word) {
            case "pay" -> {
                s.chest -= a;
                s.owed -= a;
                s.paid += a;
            }
            case "alms" -> {
                s.gave[a] = true;
                s.chest = Math.min(9999, s.chest + abbey.villages.get(a));
            }
            case "wax" -> s.wax = 1;
            case "receipt" -> {
                s.hangs = a;
                s.hangsFrom = s.night;
            }
            case "swap" -> {
                int c = s.cell[a];
                s.cell[a] = s.cell[b];
                s.cell[b] = c;
            }
            default -> pass(s, 0, abbey.rate);
        }
        return true;
    }

    // ---- nights ----

    private int byLaw(int... told) {
        return Math.max(0, Math.min(999, law.of(told)));
    }

    private int rings(State s, int storm) {
        int asks = Math.max(0, s.owed - s.hangs);
        return Math.min(999, byLaw(asks, s.paid, s.night, s.quiet, s.wax, storm, s.chest) + s.down);
    }

    private boolean wakes(State s, int m, int strokes) {
        int noise = strokes / (1 + abbey.cells.get(s.cell[m]));
        return (s.wax == 1 ? noise / 2 : noise) > abbey.monks.get(m);
    }

    private int pass(State s, int storm, int rate) {
        int strokes = rings(s, storm);
        for (int m = 0; m < abbey.monks.size(); m++) {
            s.woke[m] += wakes(s, m, strokes) ? 1 : 0;
        }
        s.struck += strokes;
        s.quiet = strokes == 0 ? s.quiet + 1 : 0;
        s.wax = 0;
        Arrays.fill(s.gave, false);
        s.paid = 0;
        s.chest = Math.min(9999, s.chest + abbey.harvest[s.night % 12]);
        if ((s.night + 1) % 12 == 0) {
            s.owed = Math.min(99999, s.owed + s.owed * rate / 100);
        }
        s.night++;
        s.down = 0;
        if (s.hangs > 0 && s.night - s.hangsFrom == 7) {
            s.down = s.hangs;
            s.hangs = 0;
        }
        return strokes;
    }

    private int wokeIn(State s) {
        return Arrays.stream(s.woke).sum();
    }

    int fault() {
        return faultPlace;
    }

    int undo() {
        if (undone.isEmpty()) {
            return -1;
        }
        now = undone.remove(undone.size() - 1);
        refused = 0;
        return undone.size();
    }

    int told(int what) {
        need(true, what, 0, 12);
        int left = now.hangs == 0 ? 0 : 7 - (now.night - now.hangsFrom);
        return new int[] {now.owed, now.chest, now.night, now.quiet, now.paid, now.wax, now.hangs, left, now.struck,
            wokeIn(now), book.length, refused, now.down}[what];
    }

    int many(int what) {
        need(true, what, 0, 3);
        return List.of(abbey.villages, abbey.cells, abbey.monks, abbey.heirs).get(what).size();
    }

    int monk(int m, int what) {
        int light = one(abbey.monks, m);
        need(true, what, 0, 3);
        return new int[] {light, now.cell[m], wakes(now, m, rings(now, 0)) ? 1 : 0, now.woke[m]}[what];
    }

    int village(int v, int what) {
        int alms = one(abbey.villages, v);
        need(true, what, 0, 1);
        return what == 0 ? alms : now.gave[v] ? 1 : 0;
    }

    int cell(int c) {
        return one(abbey.cells, c);
    }

    int heir(int h) {
        return one(abbey.heirs, h);
    }

    int strokes() {
        return rings(now, 0);
    }

    int would(int... a) {
        int[] most = {99999, 999, 999, 999, 1, 1, 9999};
        boolean fine = true;
        for (int i = 0; i < 7; i++) {
            fine = fine && a[i] >= 0 && a[i] <= most[i];
        }
        need(fine);
        return byLaw(a);
    }

    int noise(int c, int strokes) {
        int far = one(abbey.cells, c);
        need(true, strokes, 0, 999);
        return strokes / (1 + far);
    }

    int ahead(int n, int what) {
        need(what >= 0 && what <= 3, n, 0, 60);
        State s = now.copy();
        int silent = 0;
        for (int i = 0; i < n; i++) {
            silent += pass(s, 0, abbey.rate) == 0 ? 1 : 0;
        }
        return new int[] {s.struck - now.struck, s.owed, wokeIn(s) - wokeIn(now), silent}[what];
    }

    int loudest(int what) {
        need(true, what, 0, 1);
        State s = now.copy();
        int[] rung = new int[60];
        int most = 0;
        for (int i = 0; i < 60; i++) {
            rung[i] = pass(s, 0, abbey.rate);
            most = Math.max(most, rung[i]);
        }
        for (int i = 0; i < 60; i++) {
            if (rung[i] == most) {
                return what == 0 ? i : most;
            }
        }
        return -2;
    }

    int hush(int b) {
        need(true, b, 0, 999);
        for (int n = 0; n <= 999; n++) {
            State s = now.copy();
            if ((n == 0 || does(s, "pay", n, 0)) && rings(s, 0) <= b) {
                return n;
            }
        }
        return -1;
    }

    int plan(int n, int b, int bits, int what) {
        need(n >= 0 && n <= 5 && b >= 0 && b <= 999 && what >= 0 && what <= 1);
        need(bits >= 0 && bits < Math.pow(2, n));
        int[] best = {-1, -1};
        plan(now.copy(), new int[] {n, b, bits}, 0, 0, 0, best);
        return best[what];
    }

    private void plan(State s, int[] asked, int night, int all, int digits, int[] best) {
        if (night == asked[0]) {
            if (best[0] < 0 || all < best[0]) {
                best[0] = all;
                best[1] = digits;
            }
            return;
        }
        for (int tens : new int[] {0, 1, 2, 4}) {
            State next = s.copy();
            if ((tens == 0 || does(next, "pay", 10 * tens, 0))
                    && (pass(next, 0, abbey.rate) <= asked[1] || (asked[2] >> night & 1) == 0)) {
                plan(next, asked, night + 1, all + 10 * tens, 10 * digits + tens, best);
            }
        }
    }

    int grows(int x) {
        need(true, x, 0, 99999);
        State s = now.copy();
        for (int i = 0; i <= 120; i++) {
            if (s.owed >= x) {
                return i;
            }
            pass(s, 0, abbey.rate);
        }
        return -1;
    }

    int years(int seed, int nights, int q, int p, int k, int what) {
        need(nights >= 1 && nights <= 96 && q >= 0 && q <= 16 && p >= 0 && p <= 16 && k >= 0 && k <= 99);
        need(true, what, 0, 3);
        State s = now.copy();
        long drawn = seed & 0xffffffffL;
        int storms = 0;
        for (int i = 0; i < nights; i++) {
            drawn = (drawn * 1103515245L + 12345L) % (1L << 32);
            int storm = drawn / 65536 % 32768 % 16 < q ? 1 : 0;
            drawn = (drawn * 1103515245L + 12345L) % (1L << 32);
            if (drawn / 65536 % 32768 % 16 >= p) {
                for (int v = 0; v < abbey.villages.size(); v++) {
                    does(s, "alms", v, 0);
                }
            }
            does(s, "pay", Math.min(k, Math.min(s.chest, s.owed)), 0);
            pass(s, storm, abbey.rate);
            storms += storm;
        }
        return new int[] {s.owed, s.struck - now.struck, wokeIn(s) - wokeIn(now), storms}[what];
    }

    int span(int seed, int many, int nights, int q, int p, int k, int what) {
        need(many >= 1 && many <= 20 && nights >= 1 && nights <= 96 && q >= 0 && q <= 16 && p >= 0 && p <= 16);
        need(what >= 0 && what <= 2, k, 0, 99);
        int[] owed = new int[many];
        for (int i = 0; i < many; i++) {
            owed[i] = years(seed + i, nights, q, p, k, 0);
        }
        Arrays.sort(owed);
        return what == 0 ? owed[0] : what == 1 ? owed[many - 1] : (int) Arrays.stream(owed).filter(o -> o == 0).count();
    }

    // ---- what is inferred ----

    private List<int[]> heardByFits(List<int[]> pairs) {
        List<int[]> all = new ArrayList<>();
        for (int owed = 0; owed < 200; owed++) {
            for (int rate = 0; rate <= 20; rate++) {
                State s = begun(owed);
                int[] heard = new int[60];
                for (int i = 0; i < 60; i++) {
                    heard[i] = pass(s, 0, rate);
                }
                boolean right = true;
                for (int[] line : book) {
                    right = right && heard[line[0]] == line[1];
                }
                if (right) {
                    pairs.add(new int[] {owed, rate});
                    all.add(heard);
                }
            }
        }
        return all;
    }

    int fits(int what) {
        need(true, what, 0, 3);
        List<int[]> pairs = new ArrayList<>();
        heardByFits(pairs);
        int first = pairs.isEmpty() ? -1 : pairs.get(0)[what == 2 ? 1 : 0];
        long owedMany = pairs.stream().map(pair -> pair[0]).distinct().count();
        return what == 0 ? pairs.size() : what == 3 ? (int) owedMany : first;
    }

    int count(int what) {
        need(true, what, 0, 1);
        List<int[]> heard = heardByFits(new ArrayList<>());
        int chosen = -1;
        int least = Integer.MAX_VALUE;
        for (int night = 0; night < 60; night++) {
            int i = night;
            if (Arrays.stream(book).anyMatch(line -> line[0] == i)) {
                continue;
            }
            int[] alike = new int[1000];
            heard.forEach(h -> alike[h[i]]++);
            int worst = Arrays.stream(alike).max().getAsInt();
            if (worst < least) {
                least = worst;
                chosen = night;
            }
        }
        return what == 0 ? chosen : least;
    }

    private static double[] dull(int n, int chance) {
        double[] likely = new double[n + 2];
        likely[0] = 1;
        for (int i = 0; i < n; i++) {
            for (int k = i + 1; k >= 0; k--) {
                likely[k] = likely[k] * (16 - chance) + (k > 0 ? likely[k - 1] * chance : 0);
            }
        }
        return likely;
    }

    private static long error(int n, int p, int q, int t, int what) {
        double[] likely = dull(n, what == 0 ? q : p);
        double all = 0;
        for (int k = 0; k <= n; k++) {
            all += (what == 0) == (k < t) ? likely[k] : 0;
        }
        return (long) all;
    }

    long mistaken(int n, int p, int q, int t, int what, int part) {
        need(n >= 0 && n <= 8 && p >= 0 && p <= 16 && q >= 0 && q <= 16 && what >= 0 && what <= 1 && part >= 0 && part <= 1);
        need(true, t, 0, n + 1);
        java.math.BigInteger above = java.math.BigInteger.valueOf(error(n, p, q, t, what));
        java.math.BigInteger below = java.math.BigInteger.valueOf(16).pow(n);
        return (part == 0 ? above : below).divide(above.gcd(below)).longValue();
    }

    int best(int n, int p, int q) {
        need(n >= 0 && n <= 8 && p >= 0 && p <= 16 && q >= 0 && q <= 16);
        int best = 0;
        for (int t = 1; t <= n + 1; t++) {
            if (error(n, p, q, t, 0) + error(n, p, q, t, 1) < error(n, p, q, best, 0) + error(n, p, q, best, 1)) {
                best = t;
            }
        }
        return best;
    }

    private int[] bestBeds(int s) {
        int[] best = new int[9];
        best[8] = -1;
        lie(s, 0, 0, new int[8], best);
        return best;
    }

    private void lie(int s, int m, int sleep, int[] cells, int[] best) {
        if (m == abbey.monks.size()) {
            if (sleep > best[8]) {
                System.arraycopy(cells, 0, best, 0, 8);
                best[8] = sleep;
            }
            return;
        }
        for (int c = 0; c < abbey.cells.size(); c++) {
            int cell = c;
            if (Arrays.stream(cells, 0, m).noneMatch(taken -> taken == cell)) {
                cells[m] = c;
                lie(s, m + 1, sleep + (s / (1 + abbey.cells.get(c)) <= abbey.monks.get(m) ? 1 : 0), cells, best);
            }
        }
    }

    int beds(int s) {
        need(true, s, 0, 999);
        return bestBeds(s)[8];
    }

    int bed(int m, int s) {
        one(abbey.monks, m);
        need(true, s, 0, 999);
        return bestBeds(s)[m];
    }

    int watch(int m, int n) {
        one(abbey.monks, m);
        need(true, n, 0, 60);
        int[] watched = new int[abbey.monks.size()];
        for (int i = 0; i < n; i++) {
            int chosen = 0;
            for (int k = 1; k < watched.length; k++) {
                boolean less = watched[k] < watched[chosen];
                boolean lighter = watched[k] == watched[chosen] && abbey.monks.get(k) > abbey.monks.get(chosen);
                chosen = less || lighter ? k : chosen;
            }
            watched[chosen]++;
        }
        return watched[m];
    }

    private int[] have(int[] bids) {
        int[] have = new int[bids.length];
        if (10 * Arrays.stream(bids).sum() <= now.owed) {
            for (int i = 0; i < bids.length; i++) {
                have[i] = Math.min(10 * bids[i], abbey.heirs.get(i));
            }
        }
        return have;
    }

    private boolean rests(int[] bids, int k) {
        int[] have = have(bids);
        for (int i = 0; i < bids.length; i++) {
            for (int other = 0; other <= k; other++) {
                int[] others = bids.clone();
                others[i] = other;
                if (have(others)[i] > have[i]) {
                    return false;
                }
            }
        }
        return true;
    }

    int heirs(int k, int what) {
        need(k >= 0 && k <= 9 && what >= 0 && what <= 2);
        int many = abbey.heirs.size();
        int[] answers = {0, -1, 0};
        for (int way = 0; way < (int) Math.pow(10, many); way++) {
            int[] bids = new int[many];
            int rest = way;
            for (int i = many - 1; i >= 0; i--) {
                bids[i] = rest % 10;
                rest /= 10;
            }
            if (Arrays.stream(bids).allMatch(bid -> bid <= k) && rests(bids, k)) {
                if (answers[0]++ == 0) {
                    answers[1] = way;
                    answers[2] = Arrays.stream(have(bids)).sum();
                }
            }
        }
        return answers[what];
    }

    int sleepers(int s) {
        need(true, s, 0, 999);
        int bits = 0;
        for (int m = 0; m < abbey.monks.size(); m++) {
            bits += s / (1 + abbey.cells.get(now.cell[m])) <= abbey.monks.get(m) ? 1 << m : 0;
        }
        return bits;
    }

    int bears(int m, int c) {
        int light = one(abbey.monks, m);
        int far = one(abbey.cells, c);
        return Math.min(999, (light + 1) * (1 + far) - 1);
    }

    int level(int n) {
        need(true, n, 0, 200);
        for (int bound = 0; bound <= 20; bound++) {
            int most = bound;
            if (abbey.villages.stream().mapToInt(a -> Math.min(a, most)).sum() >= n) {
                return bound;
            }
        }
        return -1;
    }

    // ---- images, and what is kept ----

    private static List<State> copies(List<State> states) {
        List<State> copies = new ArrayList<>();
        states.forEach(s -> copies.add(s.copy()));
        return copies;
    }

    int image() {
        if (images.size() == 3) {
            return -1;
        }
        images.add(new Image(now.copy(), copies(undone)));
        return images.size();
    }

    int restore() {
        if (images.isEmpty()) {
            return -1;
        }
        Image image = images.remove(images.size() - 1);
        now = image.state;
        undone = image.undone;
        refused = 0;
        return images.size();
    }

    int status(int what) {
        return what == 0 ? none : what == 1 ? bad : -1;
    }

    int kept(int what) {
        return what == 0 ? images.size() : what == 1 ? tape.length() : what == 2 ? undone.size() : -1;
    }
}
