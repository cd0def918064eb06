import java.util.ArrayList;
import java.util.List;

/** Boundary cases of promises 21 to 30 and 32 to 39, and of how many calls an object is used for. */
public final class EdgesOfAnswersTest {
    private static Edge edge;

    public static void main(String[] args) throws Exception {
        edge = new Edge("EdgesOfAnswersTest");
        planRanges();
        plans();
        fits();
        fitsBegin();
        counts();
        mistakes();
        bestBounds();
        beds();
        watches();
        heirs();
        heirsOfOwed();
        sleepers();
        edge.end(21, 30);
        edge = new Edge("EdgesOfAnswersTest, later promises");
        bears();
        levels();
        yearRanges();
        years();
        yearsPay();
        spans();
        images();
        restored();
        status();
        kept();
        calls();
        edge.holds(31, "NONE.");
        edge.end(31, 39);
    }

    private static int work(OwedBell bell, String text) {
        return Check.work(bell, text);
    }

    // ---- promise 21 ----

    private static void planRanges() {
        edge.holds(21, "PLAN (n 0 to 5, b 0 to 999, bits of those n NIGHTS alone)");
        Edge.Call plan = (b, a) -> b.plan(a[0], a[1], a[2], a[3]);
        edge.range("plan", plan, new int[] {2, 9, 0, 0}, 0, 0, 5, Edge.BAD);
        edge.range("plan, b", plan, new int[] {2, 9, 3, 0}, 1, 0, 999, Edge.BAD);
        for (int n = 0; n <= 5; n++) {
            edge.range("plan of " + n + ", bits", plan, new int[] {n, 999, 0, 0}, 2, 0, (1 << n) - 1, Edge.BAD);
        }
        edge.range("plan, what", plan, new int[] {2, 9, 3, 0}, 3, 0, 1, Edge.BAD);
        OwedBell bell = Edge.full();
        edge.refused("bit 31", plan, bell, new int[] {5, 0, 1 << 31, 0}, Edge.BAD);
        edge.refused("bit 5", plan, bell, new int[] {5, 0, 33, 0}, Edge.BAD);
        edge.refused("no NIGHTS, a bit", plan, bell, new int[] {0, 0, 1, 1}, Edge.BAD);
        edge.refused("n 32 wraps no shift", plan, bell, new int[] {32, 0, 0, 1}, Edge.BAD);
    }

    private static void plan(OwedBell bell, int[] a, int least, int digits) {
        edge.due("plan " + a[0] + " " + a[1] + " " + a[2], bell.plan(a[0], a[1], a[2], 0), least);
        edge.due("its digits", bell.plan(a[0], a[1], a[2], 1), digits);
    }

    private static void plans() {
        edge.holds(21, "1 tens paid by NIGHTS as digits to the base 10 (the first the highest); NONE: not so.");
        OwedBell bell = Check.told("owe 100;chest 70;", "asks");
        plan(bell, new int[] {0, 0, 0}, 0, 0);
        plan(bell, new int[] {5, 0, 0}, 0, 0);
        plan(bell, new int[] {1, 100, 1}, 0, 0);
        plan(bell, new int[] {1, 99, 1}, 10, 1);
        plan(bell, new int[] {1, 90, 1}, 10, 1);
        plan(bell, new int[] {1, 89, 1}, 20, 2);
        plan(bell, new int[] {1, 80, 1}, 20, 2);
        plan(bell, new int[] {1, 79, 1}, 40, 4);
        plan(bell, new int[] {1, 60, 1}, 40, 4);
        plan(bell, new int[] {1, 59, 1}, -1, -1);
        plan(bell, new int[] {2, 59, 1}, -1, -1);
        plan(bell, new int[] {2, 59, 2}, 50, 14);
        plan(bell, new int[] {2, 40, 2}, 60, 24);
        plan(bell, new int[] {2, 39, 2}, -1, -1);
        plan(bell, new int[] {3, 30, 4}, 70, 124);
        plan(bell, new int[] {3, 29, 4}, -1, -1);
        plan(bell, new int[] {3, 70, 4}, 30, 12);
        plan(bell, new int[] {5, 60, 16}, 40, 4);
        plan(bell, new int[] {5, 60, 1}, 40, 40000);
        plan(bell, new int[] {5, 60, 17}, 40, 40000);
        plan(bell, new int[] {5, 70, 8}, 30, 120);
        plan(bell, new int[] {5, 30, 31}, -1, -1);
        edge.holds(21, "PLAN of n, b and told bits (the first NIGHT the lowest)");
        for (int i = 0; i < 5; i++) {
            // only in NIGHT i it strikes, if less than 10 were paid for it
            OwedBell one = Check.told("owe 90;chest 90;", "(night+" + (120 - i) + ")%12");
            plan(one, new int[] {5, 0, 1 << i}, 0, 0);
            plan(one, new int[] {5, 0, 31 & 2 << i}, i == 4 ? 0 : -1, i == 4 ? 0 : -1);
        }
        edge.holds(21, "ahead of each of the next n NIGHTS, this one first, 0, 10, 20 or 40 are paid, as by pay");
        int[][] paid = {{100, 0}, {99, 1}, {90, 1}, {89, 2}, {80, 2}, {79, 4}, {70, 4}, {61, 4}, {60, 4}, {59, -1}};
        for (int[] row : paid) {
            OwedBell rich = Check.told("owe 100;chest 100;", "asks");
            plan(rich, new int[] {1, row[0], 1}, row[1] < 0 ? -1 : 10 * row[1], row[1]);
        }
        plan(Check.told("owe 100;chest 100;", "paid*(1-night)"), new int[] {2, 9, 3}, 0, 0);
        edge.holds(21, "the least in all by which STROKES are b at most in each NIGHT told");
        plan(Check.told("owe 100;chest 100;", "asks+paid*4"), new int[] {3, 90, 4}, 10, 10);
        plan(Check.told("owe 100;chest 100;", "asks+paid*4"), new int[] {3, 90, 7}, -1, -1);
        plan(Check.told("owe 100;chest 100;", "asks+paid*4"), new int[] {3, 130, 7}, 0, 0);
        plan(Check.told("owe 100;chest 100;", "50-night*50+asks"), new int[] {3, 149, 1}, 10, 100);
        edge.holds(21, "of alike ones the first (NIGHT by NIGHT, less first)");
        plan(Check.told("owe 100;chest 70;", "asks"), new int[] {3, 80, 4}, 20, 2);
        plan(Check.told("owe 100;chest 70;", "asks+paid"), new int[] {3, 80, 4}, 20, 20);
        plan(Check.told("owe 100;chest 70;", "asks+paid"), new int[] {3, 80, 6}, 20, 200);
        edge.holds(21, "(rows by which one would be REFUSED are not asked)");
        plan(Check.told("owe 19;chest 70;", "asks"), new int[] {2, 9, 2}, 10, 1);
        plan(Check.told("owe 19;chest 70;", "asks"), new int[] {2, 8, 2}, -1, -1);
        plan(Check.told("owe 20;chest 70;", "asks"), new int[] {2, 0, 2}, 20, 2);
        plan(Check.told("owe 90;chest 19;", "asks"), new int[] {2, 80, 2}, 10, 1);
        plan(Check.told("owe 90;chest 19;", "asks"), new int[] {2, 79, 2}, -1, -1);
        plan(Check.told("owe 90;chest 19;harvest 0 1;", "asks"), new int[] {2, 70, 2}, 20, 2);
        plan(Check.told("owe 0;chest 90;", "1"), new int[] {1, 1, 1}, 0, 0);
        plan(Check.told("owe 0;chest 90;", "1"), new int[] {1, 0, 1}, -1, -1);
        plan(Check.told("owe 200;chest 200;", "asks"), new int[] {5, 0, 16}, 200, 44444);
        plan(Check.told("owe 200;chest 199;", "asks"), new int[] {5, 1, 16}, -1, -1);
        edge.holds(21, "Asked, nothing stays changed");
        edge.due("OWED", bell.told(0) + bell.told(1) + bell.told(2) + bell.told(4), 170);
    }

    // ---- promises 22 and 23 ----

    private static void fitting(OwedBell bell, int many, int owed, int rate, int owedMany) {
        edge.due("fits 0", bell.fits(0), many);
        edge.due("fits 1", bell.fits(1), owed);
        edge.due("fits 2", bell.fits(2), rate);
        edge.due("fits 3", bell.fits(3), owedMany);
    }

    private static void fits() {
        edge.holds(22, "FITS: 0 how many, 1 the OWED of the FIRST, 2 its R (NONE without), 3 how many OWED there are among them.");
        edge.range("fits", (b, a) -> b.fits(a[0]), new int[1], 0, 0, 3, Edge.BAD);
        OwedBell bell = Check.told("", "asks");
        fitting(bell, 4200, 0, 0, 200);
        Object[][] rows = {{"0 0;", 21, 0, 0, 1}, {"0 1;", 21, 1, 0, 1}, {"0 199;", 21, 199, 0, 1}, {"0 200;", 0, -1, -1, 0},
            {"0 199;12 238;", 1, 199, 20, 1}, {"0 199;12 199;", 1, 199, 0, 1}, {"0 199;12 239;", 0, -1, -1, 0},
            {"0 199;11 199;", 21, 199, 0, 1}, {"0 0;59 0;", 21, 0, 0, 1}, {"0 4;59 4;", 21, 4, 0, 1},
            {"0 5;12 6;", 1, 5, 20, 1}, {"12 0;", 21, 0, 0, 1}, {"12 238;", 1, 199, 20, 1}, {"12 237;", 1, 198, 20, 1},
            {"59 411;", 0, -1, -1, 0}, {"59 999;", 0, -1, -1, 0}, {"0 0;1 1;", 0, -1, -1, 0}};
        for (Object[] row : rows) {
            Check.book(bell, (String) row[0]);
            fitting(bell, (Integer) row[1], (Integer) row[2], (Integer) row[3], (Integer) row[4]);
        }
        Check.book(bell, "0 0;");
        Check.law(bell, "asks+999");
        fitting(bell, 0, -1, -1, 0);
        Check.book(bell, "0 999;59 999;");
        fitting(bell, 4200, 0, 0, 200);
        edge.due("a FAULT of a BOOK", Check.book(bell, "60 0;"), -8);
        edge.due("a FAULT of a LAW", Check.law(bell, "x"), -9);
        fitting(bell, 4200, 0, 0, 200);
        edge.holds(22, "FIRST: the least OWED, of it the least R.");
        OwedBell two = Check.told("", "most[asks,30]");
        Check.book(two, "59 31;");
        // 31 without interest, else less grows to it in four years
        int owed = -1;
        int rate = -1;
        int many = 0;
        List<Integer> owedMany = new ArrayList<>();
        for (int o = 0; o < 200; o++) {
            for (int r = 0; r <= 20; r++) {
                int then = o;
                for (int years = 0; years < 4; years++) {
                    then += then * r / 100;
                }
                if (then == 31) {
                    owed = owed < 0 ? o : owed;
                    rate = rate < 0 ? r : rate;
                    many++;
                    if (!owedMany.contains(o)) {
                        owedMany.add(o);
                    }
                }
            }
        }
        fitting(two, many, owed, rate, owedMany.size());
    }

    private static void fitsBegin() {
        edge.holds(22, "had the ABBEY begun with these (all else as told, the LAW as it is, nothing done from NIGHT 0 on)");
        OwedBell bell = Check.told("owe 9999;rate 20;chest 40;harvest 0 3;harvest 11 5;village 9;cell 0;monk 3;",
                "asks+chest+night*0+paid*100+wax*100+quiet*100");
        Check.book(bell, "0 140;1 143;12 153;");
        fitting(bell, 1, 100, 5, 1);
        work(bell, "pay 40;alms 0;wax;receipt 99;again 13[night;];");
        work(bell, "wax;pay 8;");
        fitting(bell, 1, 100, 5, 1);
        Check.law(bell, "asks+chest+night");
        fitting(bell, 0, -1, -1, 0);
        Check.book(bell, "0 140;1 144;12 165;");
        fitting(bell, 1, 100, 5, 1);
        edge.holds(22, "FITS: pairs of OWED (0 to 199) and R (0 to 20)");
        Check.abbey(bell, "owe 9999;rate 20;");
        fitting(bell, 4200, 0, 0, 200);
        Check.law(bell, "asks/199");
        Check.book(bell, "0 1;");
        fitting(bell, 21, 199, 0, 1);
        Check.law(bell, "asks");
        Check.book(bell, "0 100;12 120;");
        fitting(bell, 1, 100, 20, 1);
        Check.book(bell, "0 100;12 121;");
        fitting(bell, 0, -1, -1, 0);
    }

    private static void counted(OwedBell bell, int night, int left) {
        edge.due("count 0", bell.count(0), night);
        edge.due("count 1", bell.count(1), left);
    }

    private static void counts() {
        edge.holds(23, "COUNT: 0 the NIGHT, 1 how many FITS are left at the worst.");
        edge.range("count", (b, a) -> b.count(a[0]), new int[1], 0, 0, 1, Edge.BAD);
        edge.holds(23, "COUNT: the NIGHT, 0 to 59, in no line by which, whatever is counted, fewest FITS are left at the worst, "
                + "of these the first.");
        OwedBell bell = Check.told("", "9");
        counted(bell, 0, 4200);
        Check.book(bell, "0 9;");
        counted(bell, 1, 4200);
        Check.book(bell, "7 9;6 9;5 9;4 9;3 9;2 9;1 9;0 9;");
        counted(bell, 8, 4200);
        Check.book(bell, "0 9;1 9;3 9;");
        counted(bell, 2, 4200);
        Check.book(bell, "1 8;");
        counted(bell, 0, 0);
        Check.book(bell, "0 8;");
        counted(bell, 1, 0);
        // only the last NIGHT tells OWED apart, 21 pairs each
        Check.law(bell, "night/59*asks");
        Check.book(bell, "");
        edge.due("the last NIGHT", bell.count(0), 59);
        Check.book(bell, "59 0;");
        // 0 OWED, by each R, is left: all NIGHTS are alike
        counted(bell, 0, 21);
        Check.law(bell, "night/60*asks");
        Check.book(bell, "");
        counted(bell, 0, 4200);
        // 0 or 999 strokes: the greater part is left at the worst
        Check.law(bell, "(asks/50)*999");
        counted(bell, 0, 4200 - 50 * 21);
        Check.law(bell, "(asks/150)*999");
        edge.isTrue("150 and more are fewer, until interest comes", bell.count(1) <= 150 * 21);
        Check.law(bell, "night%12/11*999*(asks/100)");
        counted(bell, 11, 2100);
        Check.book(bell, "11 999;");
        counted(bell, 0, 2100);
        Check.book(bell, "11 0;");
        edge.due("as told by interest alone", bell.count(0) % 12, 11);
    }

    // ---- promises 24 and 25 ----

    private static void mistakes() {
        edge.holds(24, "TRUE (n 0 to 8; P, Q 0 to 16; T 0 to n and 1): MISSED (what 0), WRONGED (1): above (part 0), below (part 1), "
                + "in least terms.");
        Edge.Call mistaken = (b, a) -> b.mistaken(a[0], a[1], a[2], a[3], a[4], a[5]);
        edge.range("mistaken", mistaken, new int[] {3, 5, 9, 1, 0, 0}, 0, 0, 8, Edge.BAD);
        edge.range("mistaken, P", mistaken, new int[] {3, 5, 9, 1, 1, 0}, 1, 0, 16, Edge.BAD);
        edge.range("mistaken, Q", mistaken, new int[] {3, 5, 9, 1, 0, 0}, 2, 0, 16, Edge.BAD);
        for (int n = 0; n <= 8; n++) {
            edge.range("mistaken of " + n + ", T", mistaken, new int[] {n, 5, 9, 0, 0, 1}, 3, 0, n + 1, Edge.BAD);
        }
        edge.range("mistaken, what", mistaken, new int[] {3, 5, 9, 1, 0, 0}, 4, 0, 1, Edge.BAD);
        edge.range("mistaken, part", mistaken, new int[] {3, 5, 9, 1, 0, 0}, 5, 0, 1, Edge.BAD);
        OwedBell bell = new OwedBell();
        for (int n = 0; n <= 8; n++) {
            fraction(bell, new int[] {n, 7, 9, 0, 0}, 0, 1);
            fraction(bell, new int[] {n, 7, 9, 0, 1}, 1, 1);
            fraction(bell, new int[] {n, 7, 9, n + 1, 0}, 1, 1);
            fraction(bell, new int[] {n, 7, 9, n + 1, 1}, 0, 1);
        }
        edge.holds(24, "it is held false, if T or more are dull");
        // of three strokes, each dull by a half: 1 3 3 1 of 8
        int[] ways = {1, 3, 3, 1};
        int below = 0;
        for (int t = 0; t <= 4; t++) {
            int divisor = below == 0 ? 8 : below == 8 ? 8 : below % 4 == 0 ? 4 : below % 2 == 0 ? 2 : 1;
            fraction(bell, new int[] {3, 0, 8, t, 0}, below / divisor, 8 / divisor);
            fraction(bell, new int[] {3, 8, 0, t, 1}, (8 - below) / divisor, 8 / divisor);
            below += t < 4 ? ways[t] : 0;
        }
        edge.holds(24, "MISSED: how likely a false one is held true; WRONGED: a true one false");
        fraction(bell, new int[] {1, 3, 5, 1, 0}, 11, 16);
        fraction(bell, new int[] {1, 3, 5, 1, 1}, 3, 16);
        fraction(bell, new int[] {2, 3, 5, 1, 0}, 121, 256);
        fraction(bell, new int[] {2, 3, 5, 2, 0}, 231, 256);
        fraction(bell, new int[] {2, 3, 5, 1, 1}, 87, 256);
        fraction(bell, new int[] {2, 3, 5, 2, 1}, 9, 256);
        edge.holds(24, "of a true receipt each is dull by P of 16, of a false one by Q");
        long all = 4294967296L;
        fraction(bell, new int[] {8, 0, 0, 1, 0}, 1, 1);
        fraction(bell, new int[] {8, 0, 0, 1, 1}, 0, 1);
        fraction(bell, new int[] {8, 16, 16, 8, 0}, 0, 1);
        fraction(bell, new int[] {8, 16, 16, 8, 1}, 1, 1);
        fraction(bell, new int[] {8, 1, 15, 1, 0}, 1, all);
        fraction(bell, new int[] {8, 1, 15, 8, 1}, 1, all);
        fraction(bell, new int[] {8, 1, 15, 8, 0}, all - 2562890625L, all);
        fraction(bell, new int[] {8, 1, 15, 1, 1}, all - 2562890625L, all);
        fraction(bell, new int[] {1, 1, 15, 1, 0}, 1, 16);
        fraction(bell, new int[] {1, 2, 14, 1, 1}, 1, 8);
        fraction(bell, new int[] {1, 12, 4, 1, 1}, 3, 4);
        fraction(bell, new int[] {2, 8, 8, 2, 1}, 1, 4);
        edge.due("MISSED by P is none", bell.mistaken(4, 0, 9, 2, 0, 0), bell.mistaken(4, 16, 9, 2, 0, 0));
        edge.due("WRONGED by Q is none", bell.mistaken(4, 9, 0, 2, 1, 0), bell.mistaken(4, 9, 16, 2, 1, 0));
    }

    private static void fraction(OwedBell bell, int[] a, long above, long below) {
        String name = java.util.Arrays.toString(a);
        edge.due(name + " above", bell.mistaken(a[0], a[1], a[2], a[3], a[4], 0), above);
        edge.due(name + " below", bell.mistaken(a[0], a[1], a[2], a[3], a[4], 1), below);
    }

    private static void bestBounds() {
        edge.holds(25, "BEST T (n 0 to 8).");
        Edge.Call best = (b, a) -> b.best(a[0], a[1], a[2]);
        edge.range("best", best, new int[] {3, 5, 9}, 0, 0, 8, Edge.BAD);
        edge.range("best, P", best, new int[] {3, 5, 9}, 1, 0, 16, Edge.BAD);
        edge.range("best, Q", best, new int[] {3, 5, 9}, 2, 0, 16, Edge.BAD);
        edge.holds(25, "BEST T: of 0 to n and 1 by which both together are least, of these the least.");
        OwedBell bell = new OwedBell();
        int[][] rows = {{0, 0, 0, 0}, {0, 0, 16, 0}, {0, 16, 0, 0}, {1, 0, 16, 1}, {1, 16, 0, 0}, {1, 8, 8, 0}, {1, 7, 8, 1}, {1, 8, 7, 0},
            {8, 0, 16, 1}, {8, 0, 15, 1}, {8, 1, 16, 8}, {8, 15, 16, 8}, {8, 0, 1, 1}, {8, 16, 15, 0}, {8, 16, 16, 0}, {8, 0, 0, 0}, {8, 8, 8, 0},
            {2, 0, 8, 1}, {2, 8, 16, 2}, {2, 4, 12, 1}, {8, 4, 12, 4}, {3, 1, 15, 2}};
        for (int[] row : rows) {
            edge.due("best " + row[0] + " " + row[1] + " " + row[2], bell.best(row[0], row[1], row[2]), row[3]);
        }
        for (int n = 0; n <= 8; n++) {
            for (int p = 0; p <= 16; p += 4) {
                for (int q = 0; q <= 16; q += 4) {
                    leastTogether(n, p, q);
                }
            }
        }
    }

    private static void leastTogether(int n, int p, int q) {
        OwedBell bell = new OwedBell();
        long all = 1L << 4 * n;
        long least = Long.MAX_VALUE;
        int due = -1;
        for (int t = 0; t <= n + 1; t++) {
            long both = all / bell.mistaken(n, p, q, t, 0, 1) * bell.mistaken(n, p, q, t, 0, 0)
                    + all / bell.mistaken(n, p, q, t, 1, 1) * bell.mistaken(n, p, q, t, 1, 0);
            if (both < least) {
                least = both;
                due = t;
            }
        }
        edge.due("best by both errors " + n + " " + p + " " + q, bell.best(n, p, q), due);
    }

    // ---- promises 26 to 30 ----

    private static void beds() {
        edge.holds(26, "BEDS by s (0 to 999): how many sleep.");
        edge.range("beds", (b, a) -> b.beds(a[0]), new int[1], 0, 0, 999, Edge.BAD);
        edge.holds(27, "The CELL of a MONK by BEDS.");
        edge.range("bed", (b, a) -> b.bed(a[0], a[1]), new int[] {0, 40}, 0, 0, 1, Edge.NONE_SUCH);
        edge.range("bed, s", (b, a) -> b.bed(a[0], a[1]), new int[] {1, 40}, 1, 0, 999, Edge.BAD);
        edge.refused("no MONK goes ahead", (b, a) -> b.bed(2, 1000), Edge.full(), new int[0], Edge.NONE_SUCH);
        edge.refused("no MONK goes ahead", (b, a) -> b.bed(-1, -1), Edge.full(), new int[0], Edge.NONE_SUCH);
        OwedBell first = Check.told("cell 9;cell 0;cell 3;monk 2;monk 10;");
        edge.due("asked without beds()", first.bed(1, 20), 2);
        edge.due("by other strokes", first.bed(1, 2), 1);
        edge.due("no MONKS, no CELLS", new OwedBell().beds(999), 0);
        edge.due("no MONKS", Check.told("cell 0;").beds(0), 0);
        edge.holds(27, "of all ways for MONKS to sleep in CELLS of their own that by which most sleep, if it strikes s (no wax); "
                + "of alike ways the first (MONK by MONK the least CELL).");
        bedded("cell 3;monk 9;", 39, 1, 0);
        bedded("cell 3;monk 9;", 40, 0, 0);
        bedded("cell 9;cell 0;monk 9;monk 9;", 9, 2, 0, 1);
        bedded("cell 9;cell 0;monk 9;monk 9;", 10, 1, 0, 1);
        bedded("cell 0;cell 9;monk 9;monk 9;", 10, 1, 0, 1);
        bedded("cell 0;cell 9;monk 8;monk 9;", 99, 1, 0, 1);
        bedded("cell 0;cell 9;monk 9;monk 8;", 99, 1, 1, 0);
        bedded("cell 0;cell 9;monk 9;monk 8;", 100, 0, 0, 1);
        bedded("cell 0;cell 1;cell 9;monk 9;monk 40;", 60, 2, 2, 1);
        bedded("cell 0;cell 1;cell 9;monk 9;monk 40;", 81, 2, 2, 1);
        bedded("cell 0;cell 1;cell 9;monk 9;monk 40;", 82, 1, 0, 2);
        bedded("cell 0;cell 1;cell 9;monk 9;monk 40;", 99, 1, 0, 2);
        bedded("cell 0;cell 1;cell 9;monk 9;monk 40;", 409, 1, 0, 2);
        bedded("cell 0;cell 1;cell 9;monk 9;monk 40;", 410, 0, 0, 1);
        String eight = Check.times(7, "cell 0;") + "cell 9;" + Check.times(8, "monk 1;");
        bedded(eight, 0, 8, 0, 1, 2, 3, 4, 5, 6, 7);
        bedded(eight, 1, 8, 0, 1, 2, 3, 4, 5, 6, 7);
        bedded(eight, 2, 1, 0, 1, 2, 3, 4, 5, 6, 7);
        bedded(eight, 999, 0, 0, 1, 2, 3, 4, 5, 6, 7);
        bedded(Check.times(7, "cell 0;") + "cell 9;" + Check.times(3, "monk 1;") + "monk 0;monk 1;", 2, 1, 0, 1, 2, 3, 7);
        OwedBell waxed = Check.told("cell 0;cell 9;monk 9;monk 9;");
        work(waxed, "wax;swap 0 1;");
        edge.due("no wax", waxed.beds(10), 1);
        edge.due("by told CELLS", waxed.bed(0, 10), 0);
    }

    private static void bedded(String abbey, int s, int sleep, int... cells) {
        OwedBell bell = Check.told(abbey);
        edge.due(abbey + " by " + s, bell.beds(s), sleep);
        for (int i = 0; i < cells.length; i++) {
            edge.due(abbey + " by " + s + ", MONK " + i, bell.bed(i, s), cells[i]);
        }
        edge.due("he stays in his CELL", bell.monk(0, 1), 0);
    }

    private static void watches() {
        edge.holds(28, "WATCH of n (0 to 60): how often a MONK watches.");
        edge.range("watch", (b, a) -> b.watch(a[0], a[1]), new int[] {0, 9}, 0, 0, 1, Edge.NONE_SUCH);
        edge.range("watch, n", (b, a) -> b.watch(a[0], a[1]), new int[] {1, 9}, 1, 0, 60, Edge.BAD);
        edge.refused("no MONK goes ahead", (b, a) -> b.watch(2, 61), Edge.full(), new int[0], Edge.NONE_SUCH);
        edge.refused("no MONK goes ahead", (b, a) -> b.watch(-1, -1), Edge.full(), new int[0], Edge.NONE_SUCH);
        edge.holds(28, "of those who watched least so far the one of the greatest L, of alike ones the first");
        OwedBell one = Check.told("cell 0;monk 0;");
        OwedBell three = Check.told("cell 0;cell 0;cell 0;monk 0;monk 40;monk 40;");
        int[][] due = {{0, 0, 0}, {0, 1, 0}, {0, 1, 1}, {1, 1, 1}, {1, 2, 1}, {1, 2, 2}, {2, 2, 2}};
        for (int n = 0; n < due.length; n++) {
            edge.due("alone in " + n, one.watch(0, n), n);
            for (int i = 0; i < 3; i++) {
                edge.due("of three in " + n + ", " + i, three.watch(i, n), due[n][i]);
            }
        }
        edge.due("alone in 60", one.watch(0, 60), 60);
        OwedBell near = Check.told("cell 0;cell 0;cell 0;monk 5;monk 6;monk 5;");
        int[][] byOne = {{0, 0, 0}, {0, 1, 0}, {1, 1, 0}, {1, 1, 1}, {1, 2, 1}, {2, 2, 1}};
        for (int n = 0; n < byOne.length; n++) {
            for (int i = 0; i < 3; i++) {
                edge.due("L greater by one, in " + n + ", " + i, near.watch(i, n), byOne[n][i]);
            }
        }
        OwedBell eight = Check.told(Check.times(8, "cell 0;") + Check.times(8, "monk 5;"));
        for (int i = 0; i < 8; i++) {
            edge.due("of eight in 7", eight.watch(i, 7), i < 7 ? 1 : 0);
            edge.due("of eight in 8", eight.watch(i, 8), 1);
            edge.due("of eight in 9", eight.watch(i, 9), i < 1 ? 2 : 1);
            edge.due("of eight in 60", eight.watch(i, 60), i < 4 ? 8 : 7);
        }
    }

    private static void inherited(String abbey, int k, int rests, int first, int together) {
        OwedBell bell = Check.told(abbey);
        edge.isTrue("by 9, ahead of others", bell.heirs(9, 0) > 0);
        edge.due(abbey + " by " + k, bell.heirs(k, 0), rests);
        edge.due(abbey + " by " + k + ", the first", bell.heirs(k, 1), first);
        edge.due(abbey + " by " + k + ", together", bell.heirs(k, 2), together);
    }

    private static void heirs() {
        edge.holds(29, "HEIRS by k (0 to 9): 0 how many RESTS, 1 the first, as digits to the base 10");
        edge.range("heirs", (b, a) -> b.heirs(a[0], a[1]), new int[] {2, 0}, 0, 0, 9, Edge.BAD);
        edge.range("heirs, what", (b, a) -> b.heirs(a[0], a[1]), new int[] {2, 0}, 1, 0, 2, Edge.BAD);
        edge.holds(29, "(HEIR 0 the highest; by HEIRS, the least bid first; NONE without), 2 what they have together by it (0 without).");
        for (int k = 0; k <= 9; k += 3) {
            inherited("owe 50;", k, 1, 0, 0);
            inherited("owe 9;heir 9;", k, k + 1, 0, 0);
        }
        inherited("owe 0;heir 99;", 9, 10, 0, 0);
        inherited("owe 10;heir 99;", 0, 1, 0, 0);
        inherited("owe 10;heir 99;", 1, 1, 1, 10);
        inherited("owe 10;heir 99;", 9, 1, 1, 10);
        inherited("owe 90;heir 99;", 9, 1, 9, 90);
        inherited("owe 89;heir 99;", 9, 1, 8, 80);
        inherited("owe 9999;heir 90;", 9, 1, 9, 90);
        inherited("owe 9999;heir 89;", 9, 1, 9, 89);
        inherited("owe 9999;heir 80;", 9, 2, 8, 80);
        inherited("owe 9999;heir 1;", 9, 9, 1, 1);
        inherited("owe 9999;heir 10;", 9, 9, 1, 10);
        inherited("owe 9999;heir 11;", 9, 8, 2, 11);
        inherited("owe 9999;heir 99;heir 99;heir 99;heir 99;", 9, 1, 9999, 360);
        inherited("owe 360;heir 99;heir 99;heir 99;heir 99;", 9, 1, 9999, 360);
        inherited("owe 0;heir 99;heir 99;heir 99;heir 99;", 9, 10000, 0, 0);
        inherited("owe 9999;heir 1;heir 1;heir 1;heir 1;", 9, 6561, 1111, 4);
        inherited("owe 9999;heir 1;heir 99;heir 20;heir 1;", 3, 3 * 1 * 2 * 3, 1321, 1 + 30 + 20 + 1);
    }

    private static void heirsOfOwed() {
        edge.holds(29, "if all bids together are no more than OWED, each has what he bids, but no more than his claim; else nothing; "
                + "RESTS: none would have more by another bid.");
        inherited("owe 29;heir 99;heir 99;", 1, 1, 11, 20);
        inherited("owe 20;heir 99;heir 99;", 1, 1, 11, 20);
        // 0 1 and 1 0; and 1 1, as neither has more by going back to 0
        inherited("owe 19;heir 99;heir 99;", 1, 3, 1, 10);
        inherited("owe 10;heir 99;heir 99;", 1, 3, 1, 10);
        inherited("owe 9;heir 99;heir 99;", 1, 4, 0, 0);
        // 0 1, 1 0, 1 1, 1 2, 2 1, 2 2
        inherited("owe 19;heir 99;heir 99;", 2, 6, 1, 10);
        // 0 3, 1 2, 2 1, 3 0, 3 3
        inherited("owe 30;heir 5;heir 99;", 3, 5, 3, 30);
        // 0 2, 1 1, 2 0, 2 2: by 1 2 and 2 1 all have nothing, and one would have more by 1
        inherited("owe 20;heir 1;heir 99;", 2, 4, 2, 20);
        edge.holds(29, "HEIRS: each bids 0 to k tens of his own choice");
        inherited("owe 40;heir 99;heir 99;", 1, 1, 11, 20);
        inherited("owe 40;heir 99;heir 99;", 2, 1, 22, 40);
        inherited("owe 40;heir 99;heir 99;", 3, 3, 13, 40);
        OwedBell bell = Check.told("owe 30;chest 99;heir 99;");
        edge.due("of 30", bell.heirs(9, 1), 3);
        work(bell, "pay 1;");
        edge.due("of 29", bell.heirs(9, 1), 2);
        work(bell, "receipt 20;");
        edge.due("receipts are none of it", bell.heirs(9, 1), 2);
        work(bell, "pay 29;");
        edge.due("of 0", bell.heirs(9, 1), 0);
        edge.due("of 0", bell.heirs(9, 0), 10);
    }

    private static void sleepers() {
        edge.holds(30, "MONKS who sleep where they are now by s strokes (0 to 999; no wax), as bits.");
        edge.range("sleepers", (b, a) -> b.sleepers(a[0]), new int[1], 0, 0, 999, Edge.BAD);
        OwedBell bell = Check.told("cell 0;cell 1;cell 9;monk 9;monk 9;monk 9;");
        int[][] rows = {{0, 7}, {9, 7}, {10, 6}, {19, 6}, {20, 4}, {99, 4}, {100, 0}, {999, 0}};
        for (int[] row : rows) {
            edge.due("by " + row[0], bell.sleepers(row[0]), row[1]);
        }
        work(bell, "swap 0 2;wax;");
        edge.due("where they are now, no wax", bell.sleepers(20), 1);
        edge.due("none there", new OwedBell().sleepers(999), 0);
        edge.due("all of eight", Check.told(Check.times(8, "cell 0;") + Check.times(8, "monk 0;")).sleepers(0), 255);
        edge.due("the last of eight", Check.told(Check.times(8, "cell 0;") + Check.times(7, "monk 0;") + "monk 1;").sleepers(1), 128);
    }

    // ---- promises 32 and 33 ----

    private static void bears() {
        edge.holds(32, "The most strokes (0 to 999) by which a MONK sleeps in a CELL (no wax).");
        edge.range("bears", (b, a) -> b.bears(a[0], a[1]), new int[] {0, 0}, 0, 0, 1, Edge.NONE_SUCH);
        edge.range("bears, CELL", (b, a) -> b.bears(a[0], a[1]), new int[] {1, 0}, 1, 0, 2, Edge.NONE_SUCH);
        edge.refused("neither", (b, a) -> b.bears(2, 3), Edge.full(), new int[0], Edge.NONE_SUCH);
        OwedBell bell = Check.told("cell 0;cell 9;cell 1;monk 0;monk 40;monk 1;");
        work(bell, "wax;swap 0 1;");
        int[][] due = {{0, 9, 1}, {40, 409, 81}, {1, 19, 3}};
        for (int m = 0; m < 3; m++) {
            for (int c = 0; c < 3; c++) {
                edge.due("MONK " + m + ", CELL " + c, bell.bears(m, c), due[m][c]);
                edge.isTrue("sleeps by it", bell.noise(c, due[m][c]) <= bell.monk(m, 0));
                edge.isTrue("wakes by one more", bell.noise(c, due[m][c] + 1) > bell.monk(m, 0));
            }
        }
    }

    private static void levels() {
        edge.holds(33, "LEVEL of n (0 to 200): the bound.");
        edge.range("level", (b, a) -> b.level(a[0]), new int[1], 0, 0, 200, Edge.BAD);
        edge.holds(33, "VILLAGES give A each, but no more than a bound: the least bound (0 to 20) by which that is n or more together; NONE.");
        OwedBell none = new OwedBell();
        edge.due("no VILLAGES, 0", none.level(0), 0);
        edge.due("no VILLAGES, 1", none.level(1), -1);
        OwedBell bell = Check.told("village 1;village 5;village 20;");
        int[][] rows = {{0, 0}, {1, 1}, {3, 1}, {4, 2}, {5, 2}, {6, 3}, {11, 5}, {12, 6}, {25, 19}, {26, 20}, {27, -1}, {200, -1}};
        for (int[] row : rows) {
            edge.due("level " + row[0], bell.level(row[0]), row[1]);
        }
        OwedBell most = Check.told(Check.times(6, "village 20;"));
        int[][] six = {{6, 1}, {7, 2}, {114, 19}, {115, 20}, {120, 20}, {121, -1}};
        for (int[] row : six) {
            edge.due("six, level " + row[0], most.level(row[0]), row[1]);
        }
    }

    // ---- promises 34 and 35 ----

    private static void yearRanges() {
        edge.holds(34, "YEARS of so many NIGHTS (1 to 96), Q, P (0 to 16), K (0 to 99)");
        Edge.Call years = (b, a) -> b.years(a[0], a[1], a[2], a[3], a[4], a[5]);
        int[] fine = {7, 9, 5, 5, 20, 0};
        edge.range("years, seed", years, fine, 0, Integer.MIN_VALUE, Integer.MAX_VALUE, Edge.BAD);
        edge.range("years, NIGHTS", years, fine, 1, 1, 96, Edge.BAD);
        edge.range("years, Q", years, fine, 2, 0, 16, Edge.BAD);
        edge.range("years, P", years, fine, 3, 0, 16, Edge.BAD);
        edge.range("years, K", years, fine, 4, 0, 99, Edge.BAD);
        edge.range("years, what", years, fine, 5, 0, 3, Edge.BAD);
        edge.holds(35, "Of so many SEEDS (1 to 20; seed, seed and 1, ..)");
        Edge.Call span = (b, a) -> b.span(a[0], a[1], a[2], a[3], a[4], a[5], a[6]);
        int[] spanned = {7, 3, 9, 5, 5, 20, 0};
        edge.range("span, seed", span, spanned, 0, Integer.MIN_VALUE, Integer.MAX_VALUE, Edge.BAD);
        edge.range("span, SEEDS", span, spanned, 1, 1, 20, Edge.BAD);
        edge.range("span, NIGHTS", span, spanned, 2, 1, 96, Edge.BAD);
        edge.range("span, Q", span, spanned, 3, 0, 16, Edge.BAD);
        edge.range("span, P", span, spanned, 4, 0, 16, Edge.BAD);
        edge.range("span, K", span, spanned, 5, 0, 99, Edge.BAD);
        edge.range("span, what", span, spanned, 6, 0, 2, Edge.BAD);
    }

    /** The sixteenths that a SEED draws, reckoned in 64 bits and cut. */
    private static int[] draws(int seed, int many) {
        int[] drawn = new int[many];
        long s = seed & 0xffffffffL;
        for (int i = 0; i < many; i++) {
            s = (s * 1103515245L + 12345) % 4294967296L;
            drawn[i] = (int) (s / 65536 % 32768 % 16);
        }
        return drawn;
    }

    private static void years() {
        edge.holds(34, "DRAW: the SEED (32 bits) becomes itself times 1,103,515,245, and 12,345 (it wraps); its bits 16 to 30, "
                + "by 16 what is left of them.");
        for (int seed : new int[] {0, 1, -1, Integer.MAX_VALUE, Integer.MIN_VALUE, 1 << 30, 65535, 65536}) {
            OwedBell bell = Check.told("owe 9999;rate 0;village 1;", "storm*10");
            for (int n : new int[] {1, 2, 95, 96}) {
                int[] drawn = draws(seed, 2 * n);
                for (int q : new int[] {0, 1, 8, 15, 16}) {
                    int storms = 0;
                    int gave = 0;
                    for (int i = 0; i < n; i++) {
                        storms += drawn[2 * i] < q ? 1 : 0;
                        gave += drawn[2 * i + 1] < 16 - q ? 0 : 1;
                    }
                    edge.due(seed + ": storms", bell.years(seed, n, q, 16 - q, 99, 3), storms);
                    edge.due(seed + ": STROKES", bell.years(seed, n, q, 16 - q, 99, 1), 10 * storms);
                    edge.due(seed + ": alms are paid", bell.years(seed, n, q, 16 - q, 99, 0), 9999 - gave);
                }
            }
        }
        edge.holds(34, "DRAW by 16 below Q: a storm in this NIGHT; DRAW by 16 below P: no VILLAGE gives");
        OwedBell bell = Check.told("owe 500;rate 0;village 20;village 7;", "storm");
        edge.due("Q 0: none", bell.years(5, 96, 0, 0, 0, 3), 0);
        edge.due("Q 16: each NIGHT", bell.years(5, 96, 16, 0, 0, 3), 96);
        edge.due("P 0: all give", bell.years(5, 3, 0, 0, 99, 0), 500 - 3 * 27);
        edge.due("P 16: none gives", bell.years(5, 3, 0, 16, 99, 0), 500);
    }

    private static void yearsPay() {
        edge.holds(34, "else all do, as by alms; then as much is paid as can be, K at most; then night.");
        OwedBell bell = Check.told("owe 500;rate 0;chest 30;village 20;village 7;cell 0;monk 40;harvest 0 5;", "asks/9");
        edge.due("K 0", bell.years(5, 1, 0, 16, 0, 0), 500);
        edge.due("K 1", bell.years(5, 1, 0, 16, 1, 0), 499);
        edge.due("K less than the CHEST", bell.years(5, 1, 0, 16, 29, 0), 471);
        edge.due("K as much", bell.years(5, 1, 0, 16, 30, 0), 470);
        edge.due("K more", bell.years(5, 1, 0, 16, 31, 0), 470);
        edge.due("with alms", bell.years(5, 1, 0, 0, 99, 0), 443);
        edge.due("alms of two NIGHTS, and a harvest", bell.years(5, 2, 0, 0, 99, 0), 443 - 27 - 5);
        work(bell, "alms 0;wax;receipt 200;");
        edge.due("who gave does not give again", bell.years(5, 1, 0, 0, 99, 0), 443);
        edge.due("then he may", bell.years(5, 2, 0, 0, 99, 0), 443 - 27 - 5);
        edge.due("STROKES behind paying, with the receipt", bell.years(5, 1, 0, 0, 99, 1), (443 - 200) / 9);
        edge.due("wax: none wakes", bell.years(5, 1, 0, 16, 0, 2), 0);
        work(bell, "night;");
        edge.due("by 33: none wakes", bell.years(5, 1, 0, 16, 0, 2), 0);
        edge.due("by 55, behind six NIGHTS", bell.years(5, 7, 0, 16, 0, 2), 1);
        edge.holds(34, "0 OWED then, 1 STROKES in them, 2 how often MONKS woke in them, 3 storms.");
        OwedBell rung = Check.told("owe 500;rate 10;cell 0;cell 0;monk 0;monk 5;", "5+storm");
        work(rung, "again 12[night;];");
        edge.due("before", rung.told(8) * 100 + rung.told(9), 6000 + 12);
        edge.due("OWED then", rung.years(5, 12, 0, 0, 0, 0), 605);
        edge.due("STROKES in them", rung.years(5, 12, 0, 0, 0, 1), 60);
        edge.due("MONKS woke in them", rung.years(5, 12, 0, 0, 0, 2), 12);
        edge.due("MONKS woke in storms", rung.years(5, 12, 16, 0, 0, 2), 24);
        edge.due("STROKES in storms", rung.years(5, 12, 16, 0, 0, 1), 72);
        edge.due("storms", rung.years(5, 12, 16, 0, 0, 3), 12);
        OwedBell little = Check.told("owe 10;rate 0;chest 99;", "paid");
        edge.due("what is OWED ends it", little.years(5, 1, 0, 16, 99, 0), 0);
        edge.due("paid", little.years(5, 1, 0, 16, 99, 1), 10);
        edge.due("then nothing is paid", little.years(5, 96, 0, 16, 99, 1), 10);
        edge.due("K", little.years(5, 2, 0, 16, 9, 1), 10);
        edge.due("nothing stays changed", little.told(0) * 100 + little.told(1), 1099);
        OwedBell most = Check.told("owe 9999;rate 20;", "9");
        edge.due("96 NIGHTS, eight years", most.years(5, 96, 0, 0, 99, 1), 96 * 9);
        edge.due("OWED then", most.years(5, 95, 0, 0, 99, 0) < most.years(5, 96, 0, 0, 99, 0) ? 1 : 0, 1);
    }

    private static void spans() {
        edge.holds(35, "0 the least OWED then, 1 the most, 2 by how many nothing is.");
        for (int seed : new int[] {0, Integer.MAX_VALUE, Integer.MAX_VALUE - 7, -9, Integer.MIN_VALUE}) {
            OwedBell bell = Check.told("owe 21;rate 0;village 7;", "0");
            int least = Integer.MAX_VALUE;
            int most = -1;
            int free = 0;
            for (int i = 0; i < 20; i++) {
                int owed = bell.years(seed + i, 4, 3, 8, 99, 0);
                least = Math.min(least, owed);
                most = Math.max(most, owed);
                free += owed == 0 ? 1 : 0;
                edge.due(seed + ": least of " + i, bell.span(seed, i + 1, 4, 3, 8, 99, 0), least);
                edge.due(seed + ": most of " + i, bell.span(seed, i + 1, 4, 3, 8, 99, 1), most);
                edge.due(seed + ": free of " + i, bell.span(seed, i + 1, 4, 3, 8, 99, 2), free);
            }
        }
        OwedBell bell = Check.told("owe 20;chest 20;", "0");
        edge.due("by all", bell.span(1, 20, 1, 0, 0, 20, 2), 20);
        edge.due("by none", bell.span(1, 20, 1, 0, 0, 19, 2), 0);
        edge.due("1 is left", bell.span(1, 20, 1, 0, 0, 19, 0), 1);
        OwedBell most = Check.told("owe 9999;rate 20;", "0");
        work(most, Check.times(6, "again 30[night;];"));
        edge.due("99,999", most.span(1, 1, 1, 0, 0, 0, 0), 99999);
        edge.due("99,999", most.span(1, 20, 96, 0, 0, 0, 1), 99999);
    }

    // ---- promises 36 and 37 ----

    private static void images() {
        edge.holds(36, "An IMAGE of all that WORK changes, and of WORKS that can be undone: how many there are; -1: there are 3.");
        OwedBell bell = Edge.full();
        edge.due("the third", bell.image(), 3);
        String before = Edge.look(bell);
        edge.due("no fourth", bell.image(), -1);
        edge.due("no fourth", bell.image(), -1);
        edge.same("nothing is changed", Edge.look(bell), before);
        edge.due("it is no refusal", bell.status(0) + bell.status(1), 0);
        work(bell, "night;");
        edge.due("no fourth takes the third's place", bell.image(), -1);
        edge.due("restored", bell.restore(), 2);
        edge.due("the NIGHT of the third", bell.told(2), 8);
        edge.due("a third again", bell.image(), 3);
        OwedBell fresh = new OwedBell();
        for (int i = 1; i <= 3; i++) {
            edge.due("IMAGE " + i, fresh.image(), i);
            edge.due("kept", fresh.kept(0), i);
        }
        edge.due("no fourth", fresh.image(), -1);
        Check.abbey(fresh, "x");
        edge.due("a FAULT leaves them", fresh.kept(0), 3);
        Check.abbey(fresh, "");
        edge.due("an ABBEY takes them", fresh.kept(0), 0);
        edge.due("the first again", fresh.image(), 1);
    }

    private static void restored() {
        edge.holds(37, "All that is as in the latest IMAGE, which is gone: how many are left; -1: there is none.");
        OwedBell bell = new OwedBell();
        String before = Edge.look(bell);
        edge.due("none", bell.restore(), -1);
        edge.same("nothing is changed", Edge.look(bell), before);
        edge.due("it is no refusal", bell.status(0) + bell.status(1), 0);
        String abbey = "owe 900;chest 900;village 9;cell 0;cell 1;monk 5;monk 4;harvest 0 9;";
        OwedBell most = Check.told(abbey, "asks/9+quiet");
        String[] works = {"pay 9;alms 0;wax;receipt 8;swap 0 1;", "again 7[night;];pay 50;", "again 9[night;];wax;receipt 5;", "swap 1 0;night;"};
        String[] seen = new String[3];
        for (int i = 0; i < 3; i++) {
            seen[i] = Edge.look(most).replaceFirst(" kept.*", "");
            most.image();
            work(most, works[i]);
        }
        work(most, works[3]);
        for (int left = 2; left >= 0; left--) {
            edge.due("left", most.restore(), left);
            edge.same("as in IMAGE " + left, Edge.look(most).replaceFirst(" kept.*", ""), seen[left]);
            edge.due("WORKS as in it", most.kept(2), left);
        }
        edge.due("none is left", most.restore(), -1);
        edge.holds(36, "and of WORKS that can be undone");
        OwedBell works16 = Check.told("chest 50;");
        for (int i = 0; i < 16; i++) {
            work(works16, "pay 1;");
        }
        works16.image();
        for (int i = 0; i < 16; i++) {
            works16.undo();
        }
        works16.image();
        for (int i = 0; i < 16; i++) {
            work(works16, "pay 2;");
        }
        edge.due("none was there", works16.restore(), 1);
        edge.due("none to undo", works16.undo(), -1);
        edge.due("sixteen were there", works16.restore(), 0);
        for (int left = 15; left >= 0; left--) {
            edge.due("undone", works16.undo(), left);
            edge.due("paid", works16.told(4), left);
        }
        edge.due("none", works16.undo(), -1);
        OwedBell other = Check.told("chest 50;");
        work(other, "pay 1;");
        work(other, "pay 1;");
        work(other, "pay 1;");
        other.image();
        other.undo();
        other.undo();
        work(other, "pay 9;");
        work(other, "pay 9;");
        work(other, "pay 9;");
        edge.due("restored", other.restore(), 0);
        for (int left = 2; left >= 0; left--) {
            edge.due("undone", other.undo(), left);
            edge.due("paid", other.told(4), left);
        }
        restoredLeaves();
    }

    private static void restoredLeaves() {
        edge.holds(37, "All that is as in the latest IMAGE");
        OwedBell bell = Check.told("owe 90;");
        bell.image();
        Check.law(bell, "7");
        Check.book(bell, "0 7;1 7;");
        Check.feed(bell, "owe 5;");
        edge.refused("a refusal", (b, a) -> b.told(13), bell, new int[0], Edge.BAD);
        edge.due("restored", bell.restore(), 0);
        edge.due("the LAW is none of it", bell.strokes(), 7);
        edge.due("the BOOK is none of it", bell.told(10), 2);
        edge.due("the TAPE is none of it", bell.kept(1), 20);
        edge.due("status is none of it", bell.status(1), 1);
        edge.due("the TAPE is read", bell.abbey(6), 0);
        edge.due("OWED", bell.told(0), 5);
    }

    // ---- promises 38 and 39 ----

    private static void status() {
        edge.holds(38, "How many calls were refused: 0 NoSuchElementException, 1 IllegalArgumentException; NONE for others. "
                + "(No IMAGE keeps it.)");
        OwedBell bell = Edge.full();
        for (int what : new int[] {-1, 2, 3, Integer.MIN_VALUE, Integer.MAX_VALUE}) {
            edge.due("status " + what, bell.status(what), -1);
            edge.due("is no refusal", bell.status(0) + bell.status(1), 0);
        }
        bell.image();
        int none = 0;
        int bad = 0;
        for (int i = 0; i < 40; i++) {
            edge.refused("monk", (b, a) -> b.monk(9, 9), bell, new int[0], Edge.NONE_SUCH);
            none++;
            if (i % 2 == 0) {
                edge.refused("would", (b, a) -> b.would(-1, -1, -1, -1, -1, -1, -1), bell, new int[0], Edge.BAD);
                bad++;
            }
        }
        edge.due("NoSuchElementException", bell.status(0), none);
        edge.due("IllegalArgumentException", bell.status(1), bad);
        bell.restore();
        bell.undo();
        Check.abbey(bell, "x");
        Check.law(bell, "x");
        work(bell, "x");
        Check.book(bell, "x");
        for (int i = 0; i < 5; i++) {
            bell.image();
        }
        bell.feed(0, 0, 0, 0, 0);
        Check.abbey(bell, "");
        edge.due("as before", bell.status(0), none);
        edge.due("as before", bell.status(1), bad);
    }

    private static void kept() {
        edge.holds(39, "0 IMAGES, 1 bytes of the TAPE, 2 WORKS that can be undone; NONE for others.");
        OwedBell bell = Edge.full();
        for (int what : new int[] {-1, 3, 4, Integer.MIN_VALUE, Integer.MAX_VALUE}) {
            edge.due("kept " + what, bell.kept(what), -1);
            edge.due("is no refusal", bell.status(0) + bell.status(1), 0);
        }
        edge.due("IMAGES", bell.kept(0), 2);
        edge.due("bytes", bell.kept(1), 0);
        edge.due("WORKS", bell.kept(2), 3);
        for (int i = 1; i <= 31; i++) {
            bell.feed(0, 0, 0, 0, 0);
            edge.due("bytes", bell.kept(1), Math.min(600, 20 * i));
        }
        work(bell, "");
        edge.due("bytes", bell.kept(1), 0);
        edge.due("WORKS", bell.kept(2), 4);
        for (int i = 0; i < 14; i++) {
            work(bell, "");
        }
        edge.due("WORKS", bell.kept(2), 16);
        bell.restore();
        edge.due("WORKS of the IMAGE", bell.kept(2), 2);
        edge.due("IMAGES", bell.kept(0), 1);
    }

    private static void calls() {
        edge.holds(38, "An object is used for at most 512 calls after it has been made");
        OwedBell bell = new OwedBell();
        for (int i = 1; i <= 511; i++) {
            if (i % 2 == 0) {
                askNone(bell);
            } else {
                bell.kept(0);
            }
        }
        edge.due("call 512", bell.status(0), 255);
        OwedBell texts = Check.told("chest 999;owe 999;");
        int called = 2;
        while (called + 3 <= 511) {
            called += 2;
            edge.due("a WORK", work(texts, "pay 1;"), 1);
            if (texts.kept(2) == 16) {
                called++;
                texts.undo();
            }
            called++;
        }
        edge.due("OWED, by call " + (called + 1), texts.told(0), 999 - 16 + 1);
        OwedBell dear = Check.told(Check.times(8, "cell 9;") + Check.times(8, "monk 40;") + Check.times(4, "heir 99;")
                + Check.times(6, "village 20;"), "asks*night+quiet*99-chest%7*least[paid,most[storm,wax]]");
        int first = dear.span(9, 20, 96, 8, 8, 99, 1);
        int digits = dear.heirs(9, 1);
        for (int i = 0; i < 85; i++) {
            edge.due("span", dear.span(9, 20, 96, 8, 8, 99, 1), first);
            edge.due("heirs", dear.heirs(9, 1), digits);
            edge.due("beds", dear.beds(999), 0);
            edge.due("plan", dear.plan(5, 999, 31, 0), 0);
        }
    }

    private static void askNone(OwedBell bell) {
        try {
            bell.cell(0);
            edge.isTrue("no CELL 0", false);
        } catch (java.util.NoSuchElementException e) {
            // counted by status, which is asked at the end
        }
    }
}
