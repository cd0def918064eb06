/** Boundary cases of promises 8 to 20 and 31: STEPS, NIGHTS, what is told of them, what is asked about those to come. */
public final class EdgesOfNightsTest {
    private static Edge edge;

    public static void main(String[] args) throws Exception {
        edge = new Edge("EdgesOfNightsTest");
        undoing();
        telling();
        refusedSteps();
        many();
        monks();
        villagesCellsHeirs();
        strokesNow();
        would();
        noise();
        atFirst();
        inOrder();
        noStorm();
        paying();
        alms();
        waxAndSwap();
        receipts();
        cameDown();
        theLastNight();
        waking();
        quietAndRest();
        harvests();
        interest();
        ahead();
        beyondTheLastNight();
        loudest();
        hush();
        edge.end(8, 20);
        edge = new Edge("EdgesOfNightsTest, grows");
        grows();
        edge.end(31, 31);
    }

    private static int work(OwedBell bell, String text) {
        return Check.work(bell, text);
    }

    private static void nights(OwedBell bell, int many) {
        for (int left = many; left > 0; left -= 180) {
            String tens = Check.times(Math.min(left, 180) / 30, "again 30[night;];");
            work(bell, tens + "again " + Math.min(left, 180) % 30 + "[night;];");
        }
    }

    // ---- promise 8 ----

    private static void undoing() {
        edge.holds(8, "The latest WORK that was done (of no STEPS, or with all of them REFUSED, too) is undone: "
                + "how many are left; -1: there is none.");
        OwedBell bell = Check.told("chest 50;");
        String before = Edge.look(bell);
        edge.due("none", bell.undo(), -1);
        edge.due("none again", bell.undo(), -1);
        edge.same("nothing is changed", Edge.look(bell), before);
        edge.due("it is no refusal", bell.status(0) + bell.status(1), 0);
        for (int i = 0; i < 16; i++) {
            work(bell, "pay 1;");
        }
        for (int left = 15; left >= 0; left--) {
            edge.due("left", bell.undo(), left);
            edge.due("paid by those left", bell.told(4), left);
            edge.due("OWED", bell.told(0), 100 - left);
            edge.due("CHEST", bell.told(1), 50 - left);
        }
        edge.due("none is left", bell.undo(), -1);
        edge.same("all is undone", Edge.look(bell), before);
        work(bell, "");
        edge.due("of no STEPS", bell.undo(), 0);
        work(bell, "again 0[night;];");
        edge.due("an again of none", bell.undo(), 0);
        work(bell, "pay 51;pay 999;");
        edge.due("all of them REFUSED", bell.undo(), 0);
        edge.due("none", bell.undo(), -1);
        work(bell, "night;");
        work(bell, "pay 1000;");
        edge.due("one with a FAULT was not done", bell.undo(), 0);
        edge.due("NIGHT", bell.told(2), 0);
        OwedBell most = Check.told("owe 900;chest 900;village 9;cell 0;cell 1;monk 5;monk 4;harvest 0 9;", "asks/9");
        before = Edge.look(most);
        work(most, "pay 9;alms 0;wax;receipt 8;swap 0 1;again 12[night;];pay 9;alms 0;wax;receipt 8;wax;");
        edge.due("all kinds of STEPS", most.undo(), 0);
        edge.same("are undone", Edge.look(most), before);
    }

    // ---- promise 9 ----

    private static void telling() {
        edge.holds(9, "IllegalArgumentException: another what (so below).");
        edge.range("told", (b, a) -> b.told(a[0]), new int[1], 0, 0, 12, Edge.BAD);
        edge.holds(9, "8 STROKES in all by now, 9 how often MONKS woke by now");
        OwedBell bell = Check.told("cell 0;cell 0;monk 4;monk 5;", "5");
        edge.due("none by now", bell.told(8) + bell.told(9), 0);
        work(bell, "night;");
        edge.due("STROKES of one NIGHT", bell.told(8), 5);
        edge.due("woke", bell.told(9), 1);
        Check.law(bell, "999");
        nights(bell, 998);
        edge.due("999 NIGHTS", bell.told(2), 999);
        edge.due("STROKES", bell.told(8), 5 + 998 * 999);
        edge.due("woke", bell.told(9), 1 + 2 * 998);
        edge.due("he woke", bell.monk(0, 3), 999);
        edge.due("he woke", bell.monk(1, 3), 998);
        edge.holds(9, "10 lines of the BOOK");
        edge.due("none", bell.told(10), 0);
        Check.book(bell, "1 1;2 2;");
        edge.due("two", bell.told(10), 2);
        edge.due("a FAULT leaves them", Check.book(bell, "1 1;1 2;"), -8);
        edge.due("two", bell.told(10), 2);
    }

    private static void refusedSteps() {
        edge.holds(9, "11 STEPS REFUSED by the latest WORK (0 ahead of any, behind abbey() without a FAULT, undo(), restore(); "
                + "a FAULT, -20, -1 leave it)");
        OwedBell bell = new OwedBell();
        edge.due("ahead of any", bell.told(11), 0);
        edge.due("-1", bell.undo() + bell.restore(), -2);
        work(bell, "pay 1;pay 1;");
        edge.due("two", bell.told(11), 2);
        edge.due("a FAULT of a WORK", work(bell, "pay 1;x"), -9);
        edge.due("leaves it", bell.told(11), 2);
        edge.due("a FAULT of an ABBEY", Check.abbey(bell, "x"), -9);
        edge.due("leaves it", bell.told(11), 2);
        edge.due("a LAW", Check.law(bell, "7"), 1);
        edge.due("a BOOK", Check.book(bell, ""), 0);
        edge.due("leave it", bell.told(11), 2);
        bell.image();
        edge.due("an IMAGE leaves it", bell.told(11), 2);
        work(bell, "pay 1;");
        edge.due("of the latest WORK alone", bell.told(11), 1);
        bell.restore();
        edge.due("behind restore()", bell.told(11), 0);
        work(bell, "pay 1;");
        edge.due("-1: no IMAGE", bell.restore(), -1);
        edge.due("leaves it", bell.told(11), 1);
        bell.undo();
        edge.due("behind undo(), though the WORK that is left had two", bell.told(11), 0);
        work(bell, "");
        edge.due("of no STEPS", bell.told(11), 0);
        bell.undo();
        bell.undo();
        work(bell, "pay 1;");
        bell.image();
        edge.due("-1: there are three", bell.image() + bell.image() + bell.image(), 2 + 3 - 1);
        edge.due("leaves it", bell.told(11), 1);
        for (int i = 0; i < 15; i++) {
            work(bell, i == 14 ? "pay 1;pay 1;pay 1;" : "");
        }
        edge.due("-20", work(bell, "pay 1;"), -20);
        edge.due("leaves it", bell.told(11), 3);
        edge.refused("a WORK refused", (b, a) -> b.work(1), bell, new int[0], Edge.BAD);
        edge.due("leaves it", bell.told(11), 3);
        Check.abbey(bell, "");
        edge.due("behind abbey() without a FAULT", bell.told(11), 0);
        work(bell, "pay 1;night;");
        bell.undo();
        work(bell, "wax;wax;");
        bell.undo();
        edge.due("-1: nothing to undo", bell.undo(), -1);
        edge.due("0 stays", bell.told(11), 0);
    }

    // ---- promises 10 to 14 ----

    private static void many() {
        edge.holds(10, "How many: 0 VILLAGES, 1 CELLS, 2 MONKS, 3 HEIRS.");
        edge.range("many", (b, a) -> b.many(a[0]), new int[1], 0, 0, 3, Edge.BAD);
        OwedBell bell = Check.told(Check.times(6, "village 1;") + Check.times(8, "cell 0;") + Check.times(7, "monk 0;")
                + Check.times(4, "heir 1;"));
        int[] due = {6, 8, 7, 4};
        for (int what = 0; what < 4; what++) {
            edge.due("many " + what, bell.many(what), due[what]);
        }
    }

    private static void monks() {
        edge.holds(11, "NoSuchElementException: no such MONK, VILLAGE, CELL, HEIR (so below, ahead of others).");
        edge.range("monk", (b, a) -> b.monk(a[0], a[1]), new int[] {0, 0}, 0, 0, 1, Edge.NONE_SUCH);
        edge.range("monk, what", (b, a) -> b.monk(a[0], a[1]), new int[] {1, 0}, 1, 0, 3, Edge.BAD);
        OwedBell bell = Edge.full();
        for (int what : new int[] {-1, 4, Integer.MIN_VALUE, Integer.MAX_VALUE}) {
            edge.refused("monk 2, " + what, (b, a) -> b.monk(2, a[0]), bell, new int[] {what}, Edge.NONE_SUCH);
            edge.refused("monk -1, " + what, (b, a) -> b.monk(-1, a[0]), bell, new int[] {what}, Edge.NONE_SUCH);
            edge.refused("village 2, " + what, (b, a) -> b.village(2, a[0]), bell, new int[] {what}, Edge.NONE_SUCH);
        }
        OwedBell most = Check.told(Check.times(8, "cell 1;") + Check.times(7, "monk 3;") + "monk 40;");
        edge.due("the last MONK", most.monk(7, 0), 40);
        edge.refused("MONK 8", (b, a) -> b.monk(8, 0), most, new int[0], Edge.NONE_SUCH);
        edge.holds(11, "3 how often he woke by now");
        OwedBell two = Check.told("cell 0;cell 0;monk 7;monk 8;", "8");
        edge.due("never", two.monk(0, 3), 0);
        work(two, "night;wax;night;night;");
        edge.due("two of three", two.monk(0, 3), 2);
        edge.due("never", two.monk(1, 3), 0);
        edge.holds(11, "2 1 he wakes this NIGHT, 0 not");
        for (int strokes = 5; strokes <= 9; strokes++) {
            OwedBell one = Check.told("cell 1;monk 3;", "" + strokes);
            edge.due("by " + strokes, one.monk(0, 2), strokes >= 8 ? 1 : 0);
            work(one, "wax;");
            edge.due("by " + strokes + ", wax", one.monk(0, 2), 0);
        }
    }

    private static void villagesCellsHeirs() {
        edge.holds(12, "Of a VILLAGE: 0 A, 1 1 it gave since the latest NIGHT, 0 not.");
        edge.range("village", (b, a) -> b.village(a[0], a[1]), new int[] {0, 0}, 0, 0, 1, Edge.NONE_SUCH);
        edge.range("village, what", (b, a) -> b.village(a[0], a[1]), new int[] {1, 0}, 1, 0, 1, Edge.BAD);
        OwedBell bell = Check.told(Check.times(5, "village 1;") + "village 20;");
        edge.due("the last one", bell.village(5, 0), 20);
        edge.refused("VILLAGE 6", (b, a) -> b.village(6, 0), bell, new int[0], Edge.NONE_SUCH);
        work(bell, "alms 5;alms 0;");
        int[] gave = {1, 0, 0, 0, 0, 1};
        for (int i = 0; i < 6; i++) {
            edge.due("gave " + i, bell.village(i, 1), gave[i]);
        }
        work(bell, "night;alms 4;");
        for (int i = 0; i < 6; i++) {
            edge.due("gave since, " + i, bell.village(i, 1), i == 4 ? 1 : 0);
        }
        edge.holds(13, "D of a CELL.");
        edge.range("cell", (b, a) -> b.cell(a[0]), new int[1], 0, 0, 2, Edge.NONE_SUCH);
        OwedBell cells = Check.told(Check.times(7, "cell 1;") + "cell 9;");
        edge.due("the last one", cells.cell(7), 9);
        edge.refused("CELL 8", (b, a) -> b.cell(8), cells, new int[0], Edge.NONE_SUCH);
        edge.holds(14, "The claim of an HEIR.");
        edge.range("heir", (b, a) -> b.heir(a[0]), new int[1], 0, 0, 3, Edge.NONE_SUCH);
        OwedBell three = Check.told("heir 1;heir 2;heir 99;");
        edge.due("the last one", three.heir(2), 99);
        edge.refused("HEIR 3", (b, a) -> b.heir(3), three, new int[0], Edge.NONE_SUCH);
    }

    // ---- promises 15 to 17 ----

    private static void strokesNow() {
        edge.holds(15, "STROKES of this NIGHT, as all is now.");
        OwedBell bell = Check.told("owe 300;chest 300;village 7;cell 0;cell 0;monk 0;monk 0;", "asks+paid+night*9+quiet+wax*80+chest");
        edge.due("at first", bell.strokes(), 600);
        work(bell, "pay 100;");
        edge.due("paid", bell.strokes(), 500);
        work(bell, "alms 0;");
        edge.due("alms", bell.strokes(), 507);
        work(bell, "wax;");
        edge.due("wax", bell.strokes(), 587);
        work(bell, "receipt 50;");
        edge.due("a receipt", bell.strokes(), 537);
        work(bell, "night;");
        edge.due("a NIGHT", bell.strokes(), 150 + 9 + 207);
        Check.law(bell, "quiet");
        edge.due("another LAW", bell.strokes(), 0);
        work(bell, "night;");
        edge.due("QUIET", bell.strokes(), 1);
        nights(bell, 5);
        Check.law(bell, "1");
        edge.due("the receipt came down", bell.strokes(), 51);
        bell.undo();
        edge.due("undone", bell.strokes(), 1);
    }

    private static void would() {
        edge.holds(16, "STROKES by the LAW alone for such asks (0 to 99,999), paid (0 to 999), night (0 to 999), quiet (0 to 999), "
                + "wax, storm (0, 1), chest (0 to 9,999).");
        int[] most = {99999, 999, 999, 999, 1, 1, 9999};
        for (int i = 0; i < 7; i++) {
            edge.range("would, " + i, (b, a) -> b.would(a[0], a[1], a[2], a[3], a[4], a[5], a[6]), new int[7], i, 0, most[i],
                    Edge.BAD);
            edge.range("would, most, " + i, (b, a) -> b.would(a[0], a[1], a[2], a[3], a[4], a[5], a[6]), most, i, 0, most[i],
                    Edge.BAD);
        }
        String[] words = {"asks", "paid", "night", "quiet", "wax", "storm", "chest"};
        for (int i = 0; i < 7; i++) {
            int parts = i == 0 ? 101 : i == 6 ? 11 : 1;
            OwedBell bell = Check.told("owe 7;chest 5;", words[i] + "/" + parts);
            Check.work(bell, "receipt 9;again 7[night;];");
            int[] a = new int[7];
            for (int value : new int[] {0, 1, most[i] - 1, most[i]}) {
                a[i] = value;
                edge.due(words[i] + " " + value, bell.would(a[0], a[1], a[2], a[3], a[4], a[5], a[6]), value / parts);
            }
        }
    }

    private static void noise() {
        edge.holds(17, "NOISE of a CELL by so many strokes (0 to 999), without wax.");
        edge.range("noise", (b, a) -> b.noise(a[0], a[1]), new int[] {0, 9}, 0, 0, 2, Edge.NONE_SUCH);
        edge.range("noise, strokes", (b, a) -> b.noise(a[0], a[1]), new int[] {2, 9}, 1, 0, 999, Edge.BAD);
        OwedBell bell = Check.told("cell 0;cell 1;cell 9;");
        work(bell, "wax;");
        edge.refused("CELL 3, 1000 strokes", (b, a) -> b.noise(3, 1000), bell, new int[0], Edge.NONE_SUCH);
        edge.refused("CELL -1, -1 strokes", (b, a) -> b.noise(-1, -1), bell, new int[0], Edge.NONE_SUCH);
        int[][] due = {{0, 0, 0}, {1, 0, 0}, {2, 1, 0}, {9, 4, 0}, {10, 5, 1}, {19, 9, 1}, {20, 10, 2}, {998, 499, 99}, {999, 499, 99}};
        for (int[] row : due) {
            for (int c = 0; c < 3; c++) {
                edge.due("by " + row[0] + ", " + c, bell.noise(c, row[0]), row[c]);
            }
        }
    }

    // ---- NIGHTS and STEPS ----

    private static void atFirst() {
        edge.holds(9, "It is NIGHT 0 at first (at 999 nothing goes on), nothing is paid, nothing hangs there, no wax, no storm; "
                + "OWED, the CHEST as told.");
        OwedBell bell = Check.told("owe 9999;chest 999;cell 0;", "night+paid+wax+storm+quiet");
        int[] due = {9999, 999, 0, 0, 0, 0, 0, 0, 0, 0, 0, 0, 0};
        for (int what = 0; what < due.length; what++) {
            edge.due("told " + what, bell.told(what), due[what]);
        }
        edge.due("STROKES", bell.strokes(), 0);
        Check.abbey(bell, "owe 0;chest 0;");
        edge.due("0 OWED", bell.told(0), 0);
        edge.due("0 in the CHEST", bell.told(1), 0);
    }

    private static void inOrder() {
        edge.holds(5, "STEPS are done in order; one that can't be done is REFUSED, and changes nothing");
        String abbey = "owe 50;chest 5;village 6;cell 0;monk 9;";
        String[] works = {"pay 6;alms 0;", "alms 0;pay 6;", "pay 11;alms 0;pay 11;", "wax;night;wax;", "wax;wax;night;", "night;pay 3;",
            "pay 3;night;", "again 2[alms 0;pay 4;];", "again 2[pay 4;alms 0;];"};
        int[][] due = {{1, 1, 11, 0, 0}, {2, 0, 5, 6, 0}, {2, 1, 0, 11, 0}, {3, 0, 5, 0, 1}, {2, 1, 5, 0, 0}, {2, 0, 2, 3, 0},
            {2, 0, 2, 0, 0}, {3, 1, 3, 8, 0}, {3, 1, 3, 8, 0}};
        for (int i = 0; i < works.length; i++) {
            OwedBell bell = Check.told(abbey);
            edge.due(works[i] + ": done", work(bell, works[i]), due[i][0]);
            edge.due(works[i] + ": REFUSED", bell.told(11), due[i][1]);
            edge.due(works[i] + ": CHEST", bell.told(1), due[i][2]);
            edge.due(works[i] + ": paid", bell.told(4), due[i][3]);
            edge.due(works[i] + ": wax", bell.told(5), due[i][4]);
        }
        edge.holds(5, "it strikes by the LAW");
        OwedBell bell = Check.told(abbey, "night+7");
        work(bell, "night;");
        edge.due("STROKES", bell.told(8), 7);
        work(bell, "night;night;");
        edge.due("STROKES", bell.told(8), 7 + 8 + 9);
        edge.holds(9, "the NIGHT is one more.");
        edge.due("NIGHT", bell.told(2), 3);
    }

    private static void noStorm() {
        edge.holds(9, "nothing hangs there, no wax, no storm");
        OwedBell bell = Check.told("owe 90;chest 90;cell 0;cell 0;monk 0;monk 0;", "storm*9");
        Check.book(bell, "0 0;59 0;");
        edge.due("STROKES", bell.strokes(), 0);
        edge.due("he sleeps", bell.monk(0, 2) + bell.monk(1, 2), 0);
        edge.due("ahead, STROKES", bell.ahead(60, 0), 0);
        edge.due("ahead, silent", bell.ahead(60, 3), 60);
        edge.due("loudest", bell.loudest(1), 0);
        edge.due("hush", bell.hush(0), 0);
        edge.due("plan", bell.plan(3, 0, 7, 1), 0);
        edge.due("fits", bell.fits(0), 4200);
        work(bell, "night;");
        edge.due("struck", bell.told(8) + bell.told(9), 0);
        Check.law(bell, "0-storm");
        edge.due("no storm the other way round", bell.strokes() + bell.monk(0, 2) + bell.ahead(60, 0) + bell.loudest(1), 0);
        edge.due("silent", bell.ahead(60, 3), 60);
        edge.due("hush, plan", bell.hush(0) + bell.plan(3, 0, 7, 1), 0);
        edge.due("fits", bell.fits(0), 4200);
        work(bell, "night;");
        edge.due("struck", bell.told(8) + bell.told(9), 0);
        Check.law(bell, "1-storm");
        edge.due("STROKES", bell.strokes(), 1);
        edge.due("they wake", bell.monk(0, 2) + bell.monk(1, 2), 2);
        edge.due("ahead, silent", bell.ahead(60, 3), 0);
        edge.due("loudest", bell.loudest(1), 1);
        edge.due("hush", bell.hush(0), -1);
        edge.due("plan", bell.plan(3, 0, 7, 1), -1);
        edge.due("fits", bell.fits(0), 0);
        work(bell, "night;");
        edge.due("struck", bell.told(8), 1);
        Check.law(bell, "asks*(5-storm*3)");
        edge.due("less by a storm: none", bell.hush(450 - 5 * 7), 7);
        edge.due("more", bell.monk(0, 2), 1);
    }

    /** The STEP is REFUSED, is counted, and changes nothing. */
    private static void isRefused(OwedBell bell, String step) {
        work(bell, "");
        String before = Edge.look(bell);
        bell.undo();
        edge.due(step + ": none is done", work(bell, step), 0);
        edge.due(step + " is REFUSED", bell.told(11), 1);
        edge.same(step + " changes nothing", Edge.look(bell).replaceFirst("(( -?[0-9]+){11}) 1", "$1 0"), before);
        bell.undo();
    }

    private static void paying() {
        edge.holds(5, "pay: N out of the CHEST (REFUSED, if there is less, or less is OWED): OWED is less by it.");
        for (int owed = 49; owed <= 51; owed++) {
            for (int chest = 49; chest <= 51; chest++) {
                OwedBell bell = Check.told("owe " + owed + ";chest " + chest + ";");
                if (Math.min(owed, chest) < 50) {
                    isRefused(bell, "pay 50;");
                } else {
                    edge.due("done", work(bell, "pay 50;"), 1);
                    edge.due("OWED", bell.told(0), owed - 50);
                    edge.due("CHEST", bell.told(1), chest - 50);
                    edge.due("paid", bell.told(4), 50);
                }
            }
        }
        OwedBell bell = Check.told("owe 9999;chest 999;");
        edge.due("999", work(bell, "pay 999;"), 1);
        isRefused(bell, "pay 1;");
        OwedBell free = Check.told("owe 0;chest 9;");
        isRefused(free, "pay 1;");
        edge.due("behind a REFUSED STEP others are done", work(Check.told("owe 5;chest 9;"), "pay 6;pay 5;pay 1;"), 1);
    }

    private static void alms() {
        edge.holds(5, "alms: A come into the CHEST, 9,999 at most (REFUSED, if V gave since the latest NIGHT).");
        OwedBell bell = Check.told("owe 9999;rate 0;chest 999;village 1;village 20;" + Check.harvests(99));
        nights(bell, 100);
        edge.due("9,999", bell.told(1), 9999);
        for (int less = 0; less <= 2; less++) {
            work(bell, less == 0 ? "" : "pay " + less + ";");
            edge.due("alms of 1 are done", work(bell, "alms 0;"), 1);
            edge.due("CHEST less " + less, bell.told(1), Math.min(9999, 9999 - less + 1));
            edge.due("gave", bell.village(0, 1), 1);
            bell.undo();
            bell.undo();
        }
        for (int less = 19; less <= 21; less++) {
            work(bell, "pay " + less + ";");
            edge.due("alms of 20 are done", work(bell, "alms 1;"), 1);
            edge.due("CHEST less " + less, bell.told(1), Math.min(9999, 9999 - less + 20));
            bell.undo();
            bell.undo();
        }
        OwedBell twice = Check.told(Check.times(6, "village 9;"));
        work(twice, "alms 5;");
        isRefused(twice, "alms 5;");
        edge.due("others give", work(twice, "alms 4;alms 0;"), 2);
        isRefused(twice, "alms 0;");
        work(twice, "night;");
        edge.due("since the latest NIGHT alone", work(twice, "alms 5;alms 0;"), 2);
        edge.due("CHEST", twice.told(1), 45);
    }

    private static void waxAndSwap() {
        edge.holds(5, "wax: there is wax in this NIGHT (REFUSED, if there is).");
        OwedBell bell = Check.told("cell 0;cell 5;cell 0;monk 3;monk 4;");
        edge.due("none", bell.told(5), 0);
        edge.due("done", work(bell, "wax;"), 1);
        edge.due("wax", bell.told(5), 1);
        isRefused(bell, "wax;");
        work(bell, "night;");
        edge.due("in this NIGHT alone", bell.told(5), 0);
        edge.due("done again", work(bell, "wax;"), 1);
        edge.holds(5, "swap: A and B change CELLS (REFUSED, if they are one).");
        isRefused(bell, "swap 0 0;");
        isRefused(bell, "swap 1 1;");
        edge.due("done", work(bell, "swap 0 1;"), 1);
        edge.due("CELL", bell.monk(0, 1), 1);
        edge.due("CELL", bell.monk(1, 1), 0);
        isRefused(bell, "swap 1 1;");
        edge.due("the other way round, too", work(bell, "swap 1 0;night;"), 2);
        edge.due("CELL", bell.monk(0, 1), 0);
        OwedBell most = Check.told(Check.times(8, "cell 0;") + Check.times(8, "monk 0;"));
        edge.due("the last ones", work(most, "swap 7 0;swap 7 6;"), 2);
        int[] due = {7, 1, 2, 3, 4, 5, 0, 6};
        for (int i = 0; i < 8; i++) {
            edge.due("CELL of " + i, most.monk(i, 1), due[i]);
        }
    }

    private static void receipts() {
        edge.holds(5, "receipt: it hangs there for 7 NIGHTS, this one first (REFUSED, if one hangs).");
        for (int n : new int[] {1, 2, 998, 999}) {
            OwedBell bell = Check.told("owe 1999;rate 0;", "(asks-999)/2");
            edge.due("done", work(bell, "receipt " + n + ";"), 1);
            isRefused(bell, "receipt 1;");
            for (int left = 7; left >= 1; left--) {
                edge.due("N", bell.told(6), n);
                edge.due("NIGHTS still", bell.told(7), left);
                edge.due("none came down", bell.told(12), 0);
                edge.due("asks less", bell.strokes(), (1000 - n) / 2);
                edge.due("another is REFUSED", work(bell, "receipt 1;") * 10 + bell.told(11), 1);
                edge.due("the same", bell.told(6), n);
                bell.undo();
                work(bell, "night;");
            }
            edge.due("no NIGHTS still", bell.told(7), 0);
            edge.due("none hangs", bell.told(6), 0);
            edge.due("it came down", bell.told(12), n);
            edge.due("strokes", bell.strokes(), Math.min(999, 500 + n));
            edge.due("another may hang", work(bell, "receipt 500;"), 1);
            edge.due("N", bell.told(6), 500);
            edge.due("7 NIGHTS", bell.told(7), 7);
            edge.due("the other one came down for this NIGHT", bell.told(12), n);
            edge.due("strokes", bell.strokes(), Math.min(999, 250 + n));
            work(bell, "night;");
            edge.due("for this NIGHT alone", bell.told(12), 0);
            edge.due("6 NIGHTS", bell.told(7), 6);
            edge.due("strokes", bell.strokes(), 250);
        }
        edge.holds(9, "6 N of the receipt that hangs (0: none), 7 NIGHTS it hangs still, this one first");
        OwedBell late = Check.told("", "0");
        edge.due("none", late.told(6) + late.told(7), 0);
        work(late, "again 3[night;];receipt 44;");
        edge.due("N", late.told(6), 44);
        edge.due("7, this one first", late.told(7), 7);
        work(late, "again 6[night;];");
        edge.due("1, this one", late.told(7), 1);
        edge.due("N", late.told(6), 44);
        work(late, "night;");
        edge.due("none", late.told(6) + late.told(7), 0);
        edge.holds(9, "12 N of a receipt that came down for this NIGHT (0: none)");
        OwedBell bell = Check.told("owe 5;", "0");
        work(bell, "receipt 9;again 6[night;];");
        edge.due("in its 7th", bell.told(12), 0);
        edge.due("strokes of the next 1, 2, 3 NIGHTS", bell.ahead(1, 0) * 100 + bell.ahead(2, 0) * 10 + bell.ahead(3, 0), 99);
        work(bell, "night;");
        edge.due("behind its 7th", bell.told(12), 9);
        work(bell, "night;");
        edge.due("behind that", bell.told(12), 0);
        edge.due("struck", bell.told(8), 9);
    }

    private static void cameDown() {
        edge.holds(15, "and in the NIGHT behind a receipt's 7th, as it came down, its N as well, 999 at most in all");
        int[][] rows = {{0, 1}, {0, 998}, {0, 999}, {1, 997}, {1, 998}, {1, 999}, {998, 1}, {999, 1}, {999, 999}, {500, 499}, {500, 500}};
        for (int[] row : rows) {
            OwedBell bell = Check.told("owe 50;cell 0;monk 40;", "" + row[0]);
            work(bell, "receipt " + row[1] + ";again 7[night;];");
            int due = Math.min(999, row[0] + row[1]);
            edge.due(row[0] + " and " + row[1], bell.strokes(), due);
            edge.due("by the LAW alone", bell.would(0, 0, 0, 0, 0, 0, 0), row[0]);
            edge.due("ahead", bell.ahead(1, 0), due);
            edge.due("he wakes", bell.monk(0, 2), due > 40 ? 1 : 0);
            int before = bell.told(8);
            work(bell, "night;");
            edge.due("struck", bell.told(8) - before, due);
            edge.due("then by the LAW", bell.strokes(), row[0]);
        }
        OwedBell below = Check.told("owe 50;", "0-400");
        work(below, "receipt 7;again 7[night;];");
        edge.due("STROKES by the LAW are 0 at least, N comes as well", below.strokes(), 7);
        edge.due("no QUIET by it", below.told(3), 7);
        work(below, "night;");
        edge.due("QUIET is broken", below.told(3), 0);
    }

    private static void theLastNight() {
        edge.holds(5, "night (REFUSED from 999 on)");
        OwedBell bell = Check.told("chest 9;village 2;cell 0;cell 0;monk 0;monk 0;" + Check.harvests(1), "night");
        nights(bell, 997);
        edge.due("997", bell.told(2), 997);
        edge.due("done", work(bell, "night;"), 1);
        edge.due("998", bell.told(2), 998);
        edge.due("strokes", bell.strokes(), 998);
        edge.due("done once", work(bell, "night;night;"), 1);
        edge.due("999", bell.told(2), 999);
        edge.due("REFUSED", bell.told(11), 1);
        edge.due("strokes", bell.strokes(), 999);
        isRefused(bell, "night;");
        edge.due("30 REFUSED", work(bell, "again 30[night;];"), 0);
        edge.due("30 REFUSED", bell.told(11), 30);
        edge.due("others are done, and not gone behind", work(bell, "pay 3;alms 0;wax;receipt 3;swap 0 1;night;"), 5);
        edge.due("wax stays", bell.told(5), 1);
        edge.due("gave", bell.village(0, 1), 1);
        edge.due("7 NIGHTS still", bell.told(7), 7);
    }

    private static void waking() {
        edge.holds(11, "NOISE of a CELL: STROKES by 1 and D (cut), by 2 (cut) with wax; MONKS wake in whose CELL it is above L");
        for (int far : new int[] {0, 1, 9}) {
            for (int light : new int[] {0, 1, 40}) {
                int least = (light + 1) * (1 + far);
                int withWax = 2 * least;
                for (int strokes : new int[] {0, least - 1, least, least + 1, withWax - 1, withWax, withWax + 1}) {
                    OwedBell bell = Check.told("cell " + far + ";monk " + light + ";", "" + strokes);
                    edge.due(strokes + " by " + far + ", " + light, bell.monk(0, 2), strokes >= least ? 1 : 0);
                    edge.due("sleeps", bell.sleepers(strokes), strokes >= least ? 0 : 1);
                    work(bell, "night;");
                    edge.due("woke", bell.monk(0, 3), strokes >= least ? 1 : 0);
                    edge.due("woke in all", bell.told(9), strokes >= least ? 1 : 0);
                    work(bell, "wax;");
                    edge.due(strokes + " by " + far + ", " + light + ", wax", bell.monk(0, 2), strokes >= withWax ? 1 : 0);
                    edge.due("noise without wax", bell.noise(0, strokes), strokes / (1 + far));
                    int before = bell.told(9);
                    work(bell, "night;");
                    edge.due("woke, wax", bell.told(9) - before, strokes >= withWax ? 1 : 0);
                }
            }
        }
    }

    private static void quietAndRest() {
        edge.holds(9, "QUIET is one more, or 0; wax is gone, villages may give again, nothing is paid since");
        OwedBell bell = Check.told("owe 50;chest 50;village 3;", "wax");
        edge.due("none yet", bell.told(3), 0);
        work(bell, "night;");
        edge.due("one more", bell.told(3), 1);
        work(bell, "night;");
        edge.due("one more", bell.told(3), 2);
        work(bell, "wax;alms 0;pay 50;");
        edge.due("by now", bell.told(3), 2);
        edge.due("paid", bell.told(4), 50);
        work(bell, "night;");
        edge.due("0 behind one stroke", bell.told(3), 0);
        edge.due("wax is gone", bell.told(5), 0);
        edge.due("villages may give again", bell.village(0, 1), 0);
        edge.due("nothing is paid since", bell.told(4), 0);
        edge.due("the NIGHT is one more", bell.told(2), 3);
        nights(bell, 996);
        edge.due("QUIET of 996", bell.told(3), 996);
        OwedBell all = Check.told("", "0");
        nights(all, 999);
        edge.due("QUIET of 999", all.told(3), 999);
        Check.law(all, "quiet-990");
        edge.due("strokes by 999", all.strokes(), 9);
        Check.law(all, "(quiet-999-1)*9");
        edge.due("beyond 999, asked: 1001 is the first above", all.ahead(4, 0), 9);
    }

    private static void harvests() {
        edge.holds(9, "the harvest comes (9,999 at most in the CHEST)");
        OwedBell bell = Check.told("owe 9999;rate 0;chest 999;harvest 0 1;harvest 1 99;" );
        edge.due("ahead of it", bell.told(1), 999);
        work(bell, "night;");
        edge.due("of 1", bell.told(1), 1000);
        work(bell, "night;");
        edge.due("of 99", bell.told(1), 1099);
        work(bell, "night;");
        edge.due("of none", bell.told(1), 1099);
        OwedBell full = Check.told("owe 9999;rate 0;chest 999;" + Check.harvests(99));
        nights(full, 90);
        edge.due("90 NIGHTS", full.told(1), 999 + 90 * 99);
        work(full, "night;");
        edge.due("9,999 at most", full.told(1), 9999);
        for (int less = 98; less <= 100; less++) {
            work(full, "pay " + less + ";night;");
            edge.due("99 into 9,999 less " + less, full.told(1), Math.min(9999, 9999 - less + 99));
            full.undo();
        }
        edge.due("paid in NIGHTS asked about", full.years(1, 1, 0, 0, 99, 0), 9900);
    }

    private static void interest() {
        edge.holds(9, "in each 12th NIGHT (11, 23, ..) interest comes: OWED is more by R in a hundred of it (cut; 99,999 at most)");
        OwedBell bell = Check.told("owe 1000;rate 10;");
        nights(bell, 11);
        edge.due("behind NIGHT 10", bell.told(0), 1000);
        work(bell, "night;");
        edge.due("behind NIGHT 11", bell.told(0), 1100);
        nights(bell, 11);
        edge.due("behind NIGHT 22", bell.told(0), 1100);
        work(bell, "night;");
        edge.due("behind NIGHT 23", bell.told(0), 1210);
        int[][] rows = {{0, 20, 0}, {19, 5, 19}, {20, 5, 21}, {21, 5, 22}, {99, 1, 99}, {100, 1, 101}, {199, 1, 200}, {200, 1, 202},
            {4, 20, 4}, {5, 20, 6}, {9999, 0, 9999}, {9999, 20, 11998}, {1, 20, 1}};
        for (int[] row : rows) {
            edge.due(row[0] + " by " + row[1], Check.told("owe " + row[0] + ";rate " + row[1] + ";").ahead(12, 1), row[2]);
        }
        for (int due = 99998; due <= 100000; due++) {
            most(due);
        }
        OwedBell full = Check.told("owe 9999;rate 20;chest 9;");
        nights(full, 12 * 20);
        edge.due("99,999 stay", full.told(0), 99999);
        work(full, "pay 1;again 12[night;];");
        edge.due("99,999 again", full.told(0), 99999);
        edge.due("grows", full.grows(99999), 0);
    }

    /** Finds an ABBEY whose OWED would come to just so much by interest; told it is that, 99,999 at most. */
    private static void most(int due) {
        for (int owe = 9999; owe > 5000; owe--) {
            for (int rate = 20; rate > 3; rate--) {
                long owed = owe;
                int years = 0;
                while (owed < 99990) {
                    owed += owed * rate / 100;
                    years++;
                }
                if (owed == due) {
                    OwedBell bell = Check.told("owe " + owe + ";rate " + rate + ";");
                    nights(bell, 12 * years);
                    edge.due("it would be " + due, bell.told(0), Math.min(99999, due));
                    return;
                }
            }
        }
        edge.isTrue("an ABBEY comes to " + due, false);
    }

    // ---- promises 18 to 20 ----

    private static void ahead() {
        edge.holds(18, "In n NIGHTS (0 to 60), nothing being done: 0 STROKES together, 1 OWED then, 2 how often MONKS wake, "
                + "3 NIGHTS without strokes.");
        edge.range("ahead", (b, a) -> b.ahead(a[0], a[1]), new int[] {5, 0}, 0, 0, 60, Edge.BAD);
        edge.range("ahead, what", (b, a) -> b.ahead(a[0], a[1]), new int[] {60, 0}, 1, 0, 3, Edge.BAD);
        OwedBell bell = Check.told("owe 500;rate 10;cell 0;cell 0;monk 0;monk 40;", "(night+1)%2*(40+night%3)");
        work(bell, "wax;night;");
        int[] owed = {500, 500, 550, 550, 805};
        int[] ends = {0, 10, 11, 12, 60};
        for (int k = 0; k < 5; k++) {
            int n = ends[k];
            int strokes = 0;
            int woke = 0;
            int silent = 0;
            for (int night = 1; night <= n; night++) {
                int rung = (night + 1) % 2 * (40 + night % 3);
                strokes += rung;
                woke += (rung > 0 ? 1 : 0) + (rung > 40 ? 1 : 0);
                silent += rung == 0 ? 1 : 0;
            }
            edge.due("STROKES in " + n, bell.ahead(n, 0), strokes);
            edge.due("OWED in " + n, bell.ahead(n, 1), k < 4 ? owed[k] : 500 + 50 + 55 + 60 + 66 + 73);
            edge.due("wake in " + n, bell.ahead(n, 2), woke);
            edge.due("silent in " + n, bell.ahead(n, 3), silent);
        }
        OwedBell most = Check.told(Check.times(8, "cell 0;") + Check.times(8, "monk 0;"), "999");
        edge.due("the most STROKES", most.ahead(60, 0), 60 * 999);
        edge.due("the most that wake", most.ahead(60, 2), 480);
        edge.due("none silent", most.ahead(60, 3), 0);
        Check.law(most, "0");
        edge.due("no STROKES", most.ahead(60, 0) + most.ahead(60, 2), 0);
        edge.due("all silent", most.ahead(60, 3), 60);
    }

    private static void beyondTheLastNight() {
        edge.holds(18, "Asked, nothing stays changed; NIGHTS go by as by night (beyond 999, too).");
        OwedBell bell = Check.told("owe 1000;rate 1;chest 400;village 9;cell 0;monk 0;harvest 3 90;", "night-998");
        nights(bell, 999);
        int owed = bell.told(0);
        String before = Edge.look(bell);
        edge.due("NIGHT", bell.told(2), 999);
        edge.due("1", bell.ahead(1, 0), 1);
        edge.due("1 2 3", bell.ahead(3, 0), 6);
        edge.due("60", bell.ahead(60, 0), 60 * 61 / 2);
        edge.due("wakes", bell.ahead(60, 2), 60);
        // 999 leaves 3 by 12: interest comes in NIGHT 1007
        edge.due("OWED ahead of interest", bell.ahead(8, 1), owed);
        edge.due("OWED", bell.ahead(9, 1), owed + owed / 100);
        edge.due("loudest", bell.loudest(0), 59);
        edge.due("loudest", bell.loudest(1), 60);
        edge.due("hush", bell.hush(1), 0);
        edge.due("hush", bell.hush(0), -1);
        edge.due("plan", bell.plan(5, 5, 16, 0), 0);
        edge.due("plan", bell.plan(5, 4, 16, 0), -1);
        edge.due("grows", bell.grows(owed + 1), 9);
        edge.due("years", bell.years(1, 96, 0, 16, 0, 1), 96 * 97 / 2);
        edge.due("span", bell.span(1, 20, 1, 0, 16, 99, 0), owed - 99);
        edge.same("nothing stays changed", Edge.look(bell), before);
        edge.due("NIGHT", bell.told(2), 999);
    }

    private static void loudest() {
        edge.holds(19, "The NIGHT of the next 60 (0: this one) in which it strikes most, of these the first (what 0), how often (1).");
        edge.range("loudest", (b, a) -> b.loudest(a[0]), new int[1], 0, 0, 1, Edge.BAD);
        String[] laws = {"0", "7", "999", "night", "night*99", "60-night", "night%60/59", "night%61/60", "night%30/29", "(night+59)/60*0+1",
            "night/59*5", "night/60*5", "least[night,999]*0+5-night%2"};
        int[][] due = {{0, 0}, {0, 7}, {0, 999}, {59, 59}, {11, 999}, {0, 60}, {59, 1}, {0, 0}, {29, 1}, {0, 1}, {59, 5}, {0, 0}, {0, 5}};
        for (int i = 0; i < laws.length; i++) {
            OwedBell bell = Check.told("", laws[i]);
            edge.due("the NIGHT by " + laws[i], bell.loudest(0), due[i][0]);
            edge.due("how often by " + laws[i], bell.loudest(1), due[i][1]);
        }
        OwedBell bell = Check.told("", "night%5");
        int[] first = {4, 3, 2, 1, 0, 4};
        for (int i = 0; i < first.length; i++) {
            edge.due("as told from NIGHT " + i, bell.loudest(0), first[i]);
            work(bell, "night;");
        }
        OwedBell receipt = Check.told("", "5");
        work(receipt, "receipt 1;");
        edge.due("as it came down", receipt.loudest(0), 7);
        edge.due("how often", receipt.loudest(1), 6);
    }

    private static void hush() {
        edge.holds(20, "HUSH by b: the least N by which, were it paid now (as by pay; 0: nothing is), STROKES of this NIGHT are b at most; "
                + "of 0 to 999; NONE.");
        edge.range("hush", (b, a) -> b.hush(a[0]), new int[1], 0, 0, 999, Edge.BAD);
        OwedBell bell = Check.told("owe 60;chest 60;", "asks+1");
        int[][] rows = {{999, 0}, {62, 0}, {61, 0}, {60, 1}, {59, 2}, {2, 59}, {1, 60}, {0, -1}};
        for (int[] row : rows) {
            edge.due("by " + row[0], bell.hush(row[0]), row[1]);
        }
        edge.due("the CHEST ends it", Check.told("owe 60;chest 59;", "asks").hush(1), 59);
        edge.due("the CHEST ends it", Check.told("owe 60;chest 59;", "asks").hush(0), -1);
        edge.due("what is OWED ends it", Check.told("owe 60;chest 99;", "most[0,61-paid]").hush(1), 60);
        edge.due("what is OWED ends it", Check.told("owe 60;chest 99;", "most[0,61-paid]").hush(0), -1);
        edge.due("nothing is OWED", Check.told("owe 0;chest 99;", "1").hush(1), 0);
        edge.due("nothing is OWED", Check.told("owe 0;chest 99;", "1").hush(0), -1);
        edge.due("an empty CHEST", Check.told("owe 9;", "1").hush(0), -1);
        OwedBell rich = Check.told("owe 9999;chest 999;harvest 0 99;rate 0;", "999-paid");
        work(rich, "night;");
        edge.due("999 are asked", rich.hush(0), 999);
        Check.law(rich, "999-paid+1");
        edge.due("1,000 are not", rich.hush(0), -1);
        edge.due("999 leave 1", rich.hush(1), 999);
        work(rich, "pay 9;");
        edge.due("paid already counts", rich.hush(0), 991);
        Check.law(rich, "paid%100");
        edge.due("0 is asked first", rich.hush(9), 0);
        edge.due("the least", rich.hush(8), 91);
        Check.law(rich, "chest%(999+1)");
        edge.due("by the CHEST: 1,089 - 90", rich.hush(0), 89);
        edge.due("nothing stays changed", rich.told(1) * 10000 + rich.told(4), 10890000 + 9);
    }

    // ---- promise 31 ----

    private static void grows() {
        edge.holds(31, "In how many NIGHTS (0: now; 120 at most), nothing being done, x (0 to 99,999) or more is OWED; NONE.");
        edge.range("grows", (b, a) -> b.grows(a[0]), new int[1], 0, 0, 99999, Edge.BAD);
        OwedBell bell = Check.told("owe 1000;rate 20;chest 900;");
        int owed = 1000;
        for (int years = 0; years <= 10; years++) {
            edge.due("by " + owed, bell.grows(owed), 12 * years);
            edge.due("by less", bell.grows(owed - 1), 12 * years);
            edge.due("by more", bell.grows(owed + 1), years == 10 ? -1 : 12 * years + 12);
            owed += owed / 5;
        }
        edge.due("by 0", bell.grows(0), 0);
        edge.due("by 99,999", bell.grows(99999), -1);
        nights(bell, 11);
        edge.due("in one", bell.grows(1001), 1);
        int ten = 1000;
        for (int i = 0; i < 10; i++) {
            ten += ten / 5;
        }
        edge.due("in 109", bell.grows(ten), 109);
        edge.due("in 121: NONE", bell.grows(ten + 1), -1);
        work(bell, "night;");
        edge.due("in 120", bell.grows(ten + 1), 120);
        OwedBell none = Check.told("owe 0;");
        edge.due("0 is OWED", none.grows(0), 0);
        edge.due("1 never", none.grows(1), -1);
        OwedBell most = Check.told("owe 9999;rate 20;");
        nights(most, 60);
        edge.due("99,999 in the 13th year", most.grows(99999), 96);
    }
}
