/** Promises 21 to 30 and 32 to 39: plans, fits, receipts, beds, watches, heirs, alms, years, images, what is kept. */
public final class AnswersTest {
    private static final Check check = new Check("AnswersTest");

    public static void main(String[] args) {
        plans();
        fits();
        counting();
        mistakes();
        bestBounds();
        beds();
        sleepersAndBears();
        watches();
        heirs();
        levels();
        years();
        spans();
        images();
        keeping();
        check.end();
    }

    private static void plans() {
        OwedBell bell = Check.told("owe 90;chest 60;", "asks");
        check.due("nothing told", bell.plan(5, 0, 0, 0), 0);
        check.due("no NIGHTS", bell.plan(0, 0, 0, 0), 0);
        check.due("40 are enough", bell.plan(1, 50, 1, 0), 40);
        check.due("as digits", bell.plan(1, 50, 1, 1), 4);
        check.due("10 more than can be paid at once", bell.plan(1, 49, 1, 0), -1);
        check.due("10 more than can be paid at once", bell.plan(1, 49, 1, 1), -1);
        check.due("in 3 NIGHTS: less first", bell.plan(3, 40, 4, 1), 14);
        check.due("50 in all", bell.plan(3, 40, 4, 0), 50);
        check.due("the last alone", bell.plan(3, 50, 4, 1), 4);
        check.due("60 in all", bell.plan(5, 30, 31, 1), -1);
        check.due("more than is in the CHEST", bell.plan(5, 29, 16, 0), -1);
        check.due("60 in all", bell.plan(5, 30, 16, 1), 24);
        check.due("each NIGHT told", bell.plan(3, 70, 3, 1), 200);
        check.due("nothing stays changed", bell.told(0), 90);
        OwedBell paid = Check.told("owe 90;chest 60;", "least[paid,night]*asks");
        check.due("paying rings", paid.plan(3, 0, 7, 0), 0);
        check.due("20 at most is OWED", Check.told("owe 20;chest 99;", "20-paid").plan(2, 0, 2, 1), 2);
        check.due("rows with a REFUSED one are not asked", Check.told("owe 20;chest 99;", "30-paid").plan(2, 0, 2, 1), -1);
        OwedBell interest = Check.told("owe 100;rate 20;chest 99;", "asks");
        Check.work(interest, "again 11 [night;];");
        check.due("paid ahead of the interest, less is OWED", interest.plan(2, 108, 2, 1), 10);
        check.due("paid behind it", interest.plan(2, 110, 2, 1), 1);
        check.bad("n 6", () -> bell.plan(6, 0, 0, 0));
        check.bad("n -1", () -> bell.plan(-1, 0, 0, 0));
        check.bad("b 1000", () -> bell.plan(1, 1000, 0, 0));
        check.bad("b -1", () -> bell.plan(1, -1, 0, 0));
        check.bad("bits 2 of 1", () -> bell.plan(1, 0, 2, 0));
        check.bad("bits 1 of 0", () -> bell.plan(0, 0, 1, 0));
        check.bad("bits -1", () -> bell.plan(5, 0, -1, 0));
        check.bad("bits 32", () -> bell.plan(5, 0, 32, 0));
        check.bad("what 2", () -> bell.plan(1, 0, 0, 2));
        check.bad("what -1", () -> bell.plan(1, 0, 0, -1));
    }

    private static void fits() {
        OwedBell bell = Check.told("owe 500;rate 1;chest 30;harvest 0 2;", "asks+chest");
        fitting(bell, 4200, 0, 0, 200);
        Check.book(bell, "0 130;");
        fitting(bell, 21, 100, 0, 1);
        Check.book(bell, "0 130;12 142;");
        fitting(bell, 1, 100, 10, 1);
        Check.book(bell, "12 142;");
        // 110 at NIGHT 12: 92 by 20, 93 by 19 (110.67), .. 110 by 0
        int many = 0;
        int owedMany = 0;
        int first = -1;
        int rate = -1;
        for (int owed = 0; owed < 200; owed++) {
            boolean any = false;
            for (int r = 0; r <= 20; r++) {
                if (owed + owed * r / 100 + 32 == 142) {
                    many++;
                    any = true;
                    if (first < 0) {
                        first = owed;
                        rate = r;
                    }
                }
            }
            owedMany += any ? 1 : 0;
        }
        fitting(bell, many, first, rate, owedMany);
        Check.work(bell, "pay 7;alms 0;");
        Check.work(bell, "pay 7;night;receipt 9;");
        fitting(bell, many, first, rate, owedMany);
        Check.book(bell, "0 29;");
        fitting(bell, 0, -1, -1, 0);
        Check.law(bell, "29");
        fitting(bell, 4200, 0, 0, 200);
        Check.law(bell, "x");
        Check.book(bell, "x");
        Check.abbey(bell, "x");
        fitting(bell, 4200, 0, 0, 200);
        Check.abbey(bell, "");
        Check.book(bell, "0 19;");
        fitting(bell, 210, 190, 0, 10);
        check.bad("fits 4", () -> bell.fits(4));
        check.bad("fits -1", () -> bell.fits(-1));
        OwedBell quiet = Check.told("", "quiet*asks");
        Check.book(quiet, "1 7;");
        fitting(quiet, 21, 7, 0, 1);
    }

    private static void fitting(OwedBell bell, int many, int owed, int rate, int owedMany) {
        check.due("fits 0", bell.fits(0), many);
        check.due("fits 1", bell.fits(1), owed);
        check.due("fits 2", bell.fits(2), rate);
        check.due("fits 3", bell.fits(3), owedMany);
    }

    private static void counting() {
        OwedBell owed = Check.told("", "asks");
        Check.book(owed, "0 100;");
        // by interest the 21 rates part at NIGHT 12, all of them: 100 to 120
        check.due("the NIGHT", owed.count(0), 12);
        check.due("one is left at the worst", owed.count(1), 1);
        Check.book(owed, "0 100;12 115;");
        check.due("one fits: the first NIGHT in no line", owed.count(0), 1);
        check.due("one is left", owed.count(1), 1);
        Check.book(owed, "0 100;1 99;");
        check.due("none fits: the first NIGHT in no line", owed.count(0), 2);
        check.due("none is left", owed.count(1), 0);
        Check.law(owed, "night%1*asks+asks/999+5");
        Check.book(owed, "0 5;1 5;2 5;3 5;4 5;5 5;6 5;7 5;");
        check.due("all alike", owed.count(0), 8);
        check.due("all are left", owed.count(1), 4200);
        Check.law(owed, "night%7/6*asks");
        Check.book(owed, "");
        // NIGHT 6 tells 200 OWED apart, 21 rates each; later ones no better, as 0 stays 0 by each rate
        check.due("no NIGHT that is silent", owed.count(0), 6);
        check.due("the rates are left", owed.count(1), 21);
        Check.book(owed, "6 50;");
        check.due("NIGHT 13 tells the rates apart, but two by two", owed.count(0) % 7, 6);
        check.due("never worse than by 50, 51, 52, .. 60", owed.count(1) <= 2 ? 1 : 0, 1);
        Check.law(owed, "night*999");
        Check.book(owed, "");
        check.due("the utmost strokes", owed.count(1), 4200);
        check.due("the first", owed.count(0), 0);
        Check.book(owed, "0 0;");
        check.due("999 strokes are counted, too", owed.count(1), 4200);
        check.bad("count 2", () -> owed.count(2));
        check.bad("count -1", () -> owed.count(-1));
    }

    private static void mistakes() {
        OwedBell bell = new OwedBell();
        fraction(bell, new int[] {1, 4, 12, 1, 0}, 1, 4);
        fraction(bell, new int[] {1, 4, 12, 1, 1}, 1, 4);
        fraction(bell, new int[] {1, 4, 12, 2, 0}, 1, 1);
        fraction(bell, new int[] {1, 4, 12, 2, 1}, 0, 1);
        fraction(bell, new int[] {1, 4, 12, 0, 0}, 0, 1);
        fraction(bell, new int[] {1, 4, 12, 0, 1}, 1, 1);
        fraction(bell, new int[] {3, 8, 8, 2, 0}, 1, 2);
        fraction(bell, new int[] {3, 1, 8, 3, 1}, 1, 4096);
        fraction(bell, new int[] {8, 0, 1, 8, 0}, 4294967295L, 4294967296L);
        fraction(bell, new int[] {8, 1, 1, 8, 1}, 1, 4294967296L);
        fraction(bell, new int[] {8, 16, 16, 8, 1}, 1, 1);
        fraction(bell, new int[] {8, 16, 16, 8, 0}, 0, 1);
        fraction(bell, new int[] {0, 3, 5, 0, 1}, 1, 1);
        fraction(bell, new int[] {0, 3, 5, 1, 0}, 1, 1);
        fraction(bell, new int[] {0, 3, 5, 1, 1}, 0, 1);
        fraction(bell, new int[] {2, 6, 5, 1, 1}, 39, 64);
        int[][] bad = {{9, 0, 0, 0, 0, 0}, {-1, 0, 0, 0, 0, 0}, {1, 17, 0, 0, 0, 0}, {1, -1, 0, 0, 0, 0},
            {1, 0, 17, 0, 0, 0}, {1, 0, -1, 0, 0, 0}, {1, 0, 0, 3, 0, 0}, {1, 0, 0, -1, 0, 0}, {1, 0, 0, 0, 2, 0},
            {1, 0, 0, 0, -1, 0}, {1, 0, 0, 0, 0, 2}, {1, 0, 0, 0, 0, -1}, {Integer.MAX_VALUE, 0, 0, 0, 0, 0}};
        for (int[] a : bad) {
            check.bad("mistaken", () -> bell.mistaken(a[0], a[1], a[2], a[3], a[4], a[5]));
        }
    }

    private static void fraction(OwedBell bell, int[] a, long above, long below) {
        check.due("above", bell.mistaken(a[0], a[1], a[2], a[3], a[4], 0), above);
        check.due("below", bell.mistaken(a[0], a[1], a[2], a[3], a[4], 1), below);
    }

    private static void bestBounds() {
        OwedBell bell = new OwedBell();
        check.due("alike ones: the least", bell.best(5, 7, 7), 0);
        check.due("sure ones", bell.best(4, 0, 16), 1);
        check.due("the wrong way round", bell.best(4, 16, 0), 0);
        check.due("nothing is heard", bell.best(0, 3, 9), 0);
        check.due("a half", bell.best(8, 4, 12), 4);
        check.due("all but none", bell.best(3, 0, 1), 1);
        check.due("all or none", bell.best(3, 15, 16), 3);
        check.bad("n 9", () -> bell.best(9, 0, 0));
        check.bad("n -1", () -> bell.best(-1, 0, 0));
        check.bad("P 17", () -> bell.best(1, 17, 0));
        check.bad("P -1", () -> bell.best(1, -1, 0));
        check.bad("Q 17", () -> bell.best(1, 0, 17));
        check.bad("Q -1", () -> bell.best(1, 0, -1));
    }

    private static void beds() {
        OwedBell bell = Check.told("cell 9;cell 0;cell 3;monk 2;monk 10;");
        // by 20 strokes the noise is 2, 20, 5
        check.due("both sleep", bell.beds(20), 2);
        check.due("bed", bell.bed(0, 20), 0);
        check.due("bed", bell.bed(1, 20), 2);
        check.due("all sleep: the least CELLS", bell.bed(0, 2), 0);
        check.due("all sleep: the least CELLS", bell.bed(1, 2), 1);
        check.due("by 110, 11 27: none sleeps", bell.beds(110), 0);
        check.due("by 30, 3 30 7: one sleeps", bell.beds(30), 1);
        check.due("the first way", bell.bed(0, 30), 0);
        check.due("the first way", bell.bed(1, 30), 2);
        Check.work(bell, "swap 0 1;wax;");
        check.due("no matter where they are, and no wax", bell.bed(1, 20), 2);
        check.due("no MONKS", new OwedBell().beds(0), 0);
        check.bad("beds 1000", () -> bell.beds(1000));
        check.bad("beds -1", () -> bell.beds(-1));
        check.none("bed of 2", () -> bell.bed(2, 0));
        check.none("bed of -1, ahead of others", () -> bell.bed(-1, 1000));
        check.bad("bed by 1000", () -> bell.bed(0, 1000));
        check.bad("bed by -1", () -> bell.bed(0, -1));
        OwedBell full = Check.told("cell 0;cell 1;cell 2;cell 3;cell 4;cell 5;cell 6;cell 7;"
                + "monk 12;monk 14;monk 17;monk 20;monk 25;monk 33;monk 40;monk 11;");
        // 100 strokes: 100 50 33 25 20 16 14 12: all but two find a CELL
        check.due("eight MONKS", full.beds(100), 6);
        int used = 0;
        for (int i = 0; i < 8; i++) {
            used |= 1 << full.bed(i, 100);
        }
        check.due("CELLS of their own", used, 255);
    }

    private static void sleepersAndBears() {
        OwedBell bell = Check.told("cell 0;cell 9;cell 3;monk 5;monk 40;monk 0;");
        check.due("all", bell.sleepers(0), 7);
        check.due("by 5: 5 0 1", bell.sleepers(5), 3);
        check.due("by 6", bell.sleepers(6), 2);
        check.due("by 409: 40", bell.sleepers(409), 2);
        check.due("by 410: 41", bell.sleepers(410), 0);
        check.due("bears", bell.bears(1, 1), 409);
        check.due("bears", bell.bears(0, 0), 5);
        check.due("bears", bell.bears(2, 0), 0);
        check.due("bears", bell.bears(2, 2), 3);
        check.due("by 999", bell.sleepers(999), 0);
        check.bad("sleepers 1000", () -> bell.sleepers(1000));
        check.bad("sleepers -1", () -> bell.sleepers(-1));
        check.none("bears: MONK 3", () -> bell.bears(3, 0));
        check.none("bears: MONK -1", () -> bell.bears(-1, 0));
        check.none("bears: CELL 3", () -> bell.bears(0, 3));
        check.none("bears: CELL -1", () -> bell.bears(0, -1));
    }

    private static void watches() {
        OwedBell bell = Check.told("cell 0;cell 0;cell 0;cell 0;monk 3;monk 9;monk 3;monk 8;");
        int[][] due = {{0, 0, 0, 0}, {0, 1, 0, 0}, {0, 1, 0, 1}, {1, 1, 0, 1}, {1, 1, 1, 1}, {1, 2, 1, 1}, {1, 2, 1, 2}};
        for (int n = 0; n < due.length; n++) {
            for (int i = 0; i < 4; i++) {
                check.due("watch of " + i + " in " + n, bell.watch(i, n), due[n][i]);
            }
        }
        check.due("60 NIGHTS", bell.watch(2, 60), 15);
        check.none("watch of 4", () -> bell.watch(4, 0));
        check.none("watch of -1, ahead of others", () -> bell.watch(-1, 61));
        check.bad("61 NIGHTS", () -> bell.watch(0, 61));
        check.bad("-1 NIGHTS", () -> bell.watch(0, -1));
    }

    private static void heirs() {
        OwedBell one = Check.told("owe 35;heir 22;");
        // 30 and 20 crowns of 35, but no more than 22: by 30 he has 22, by 20 less
        check.due("one RESTS", one.heirs(9, 0), 1);
        check.due("by three tens", one.heirs(9, 1), 3);
        check.due("he has", one.heirs(9, 2), 22);
        check.due("by two tens", one.heirs(2, 1), 2);
        check.due("he has", one.heirs(2, 2), 20);
        check.due("by none", one.heirs(0, 1), 0);
        OwedBell two = Check.told("owe 20;heir 99;heir 99;");
        // 0 and 2, 1 and 1, 2 and 0, and all by which each is too much for the other: 2 and 2 for k 2
        check.due("RESTS", two.heirs(2, 0), 4);
        check.due("the first", two.heirs(2, 1), 2);
        check.due("together", two.heirs(2, 2), 20);
        check.due("with greater bids, too", two.heirs(3, 0), 3 + 4);
        Check.work(two, "pay 1;");
        check.due("by k 0", two.heirs(0, 0), 1);
        OwedBell poor = Check.told("owe 9;heir 5;heir 5;");
        check.due("none can have more, whatever they bid", poor.heirs(1, 0), 4);
        check.due("the first", poor.heirs(1, 1), 0);
        check.due("together", poor.heirs(1, 2), 0);
        OwedBell four = Check.told("owe 99;heir 10;heir 20;heir 30;heir 5;");
        check.due("by 90 of the last the others can't have ten", four.heirs(9, 1), 9);
        check.due("together", four.heirs(9, 2), 5);
        check.due("by 50 each at most", four.heirs(5, 1), 45);
        check.due("together", four.heirs(5, 2), 30 + 5);
        check.bad("k 10", () -> two.heirs(10, 0));
        check.bad("k -1", () -> two.heirs(-1, 0));
        check.bad("what 3", () -> two.heirs(1, 3));
        check.bad("what -1", () -> two.heirs(1, -1));
    }

    private static void levels() {
        OwedBell bell = Check.told("village 3;village 20;village 7;");
        check.due("0", bell.level(0), 0);
        check.due("1", bell.level(1), 1);
        check.due("9", bell.level(9), 3);
        check.due("10: 3 4 4", bell.level(10), 4);
        check.due("17: 3 7 7", bell.level(17), 7);
        check.due("18: 3 8 7", bell.level(18), 8);
        check.due("30: all", bell.level(30), 20);
        check.due("31", bell.level(31), -1);
        check.due("200", bell.level(200), -1);
        Check.work(bell, "alms 1;");
        check.due("no matter who gave", bell.level(30), 20);
        check.bad("level 201", () -> bell.level(201));
        check.bad("level -1", () -> bell.level(-1));
    }

    private static int drawn(int[] seed) {
        seed[0] = seed[0] * 1103515245 + 12345;
        return (seed[0] >> 16 & 32767) % 16;
    }

    private static void years() {
        OwedBell bell = Check.told("owe 400;rate 20;village 4;village 9;harvest 2 30;cell 0;monk 5;", "asks/9+storm*50");
        Check.work(bell, "alms 1;wax;receipt 50;night;alms 0;");
        for (int seed : new int[] {0, 1, -1, 77, Integer.MAX_VALUE, Integer.MIN_VALUE, 123456789}) {
            int[] s = {seed};
            int owed = 400;
            int chest = 13;
            int strokes = 0;
            int storms = 0;
            int woke = 0;
            for (int night = 1; night <= 40; night++) {
                int storm = drawn(s) < 5 ? 1 : 0;
                if (drawn(s) >= 9) {
                    chest += night == 1 ? 9 : 13;
                }
                int paid = Math.min(11, Math.min(chest, owed));
                chest -= paid;
                owed -= paid;
                int rung = (Math.max(0, owed - (night < 7 ? 50 : 0))) / 9 + storm * 50 + (night == 7 ? 50 : 0);
                strokes += rung;
                storms += storm;
                woke += rung > 5 ? 1 : 0;
                chest += night % 12 == 2 ? 30 : 0;
                owed += night % 12 == 11 ? owed * 20 / 100 : 0;
            }
            check.due("OWED then, " + seed, bell.years(seed, 40, 5, 9, 11, 0), owed);
            check.due("STROKES, " + seed, bell.years(seed, 40, 5, 9, 11, 1), strokes);
            check.due("woke, " + seed, bell.years(seed, 40, 5, 9, 11, 2), woke);
            check.due("storms, " + seed, bell.years(seed, 40, 5, 9, 11, 3), storms);
        }
        check.due("a storm each NIGHT", bell.years(3, 96, 16, 0, 0, 3), 96);
        check.due("no storm", bell.years(3, 96, 0, 0, 0, 3), 0);
        check.due("none gives, the CHEST is paid", bell.years(3, 1, 0, 16, 99, 0), 387);
        check.due("all give, but who gave", bell.years(3, 1, 0, 0, 99, 0), 378);
        check.due("nothing stays changed", bell.told(1), 13);
        int[][] bad = {{0, 0, 0, 0, 0}, {97, 0, 0, 0, 0}, {1, 17, 0, 0, 0}, {1, -1, 0, 0, 0}, {1, 0, 17, 0, 0},
            {1, 0, -1, 0, 0}, {1, 0, 0, 100, 0}, {1, 0, 0, -1, 0}, {1, 0, 0, 0, 4}, {1, 0, 0, 0, -1}};
        for (int[] a : bad) {
            check.bad("years", () -> bell.years(1, a[0], a[1], a[2], a[3], a[4]));
            check.bad("span", () -> bell.span(1, 1, a[0], a[1], a[2], a[3], a[4]));
        }
        check.bad("span of 0", () -> bell.span(1, 0, 1, 0, 0, 0, 0));
        check.bad("span of 21", () -> bell.span(1, 21, 1, 0, 0, 0, 0));
        check.bad("span what 3", () -> bell.span(1, 1, 1, 0, 0, 0, 3));
    }

    private static void spans() {
        OwedBell bell = Check.told("owe 60;rate 3;village 4;village 9;harvest 5 8;");
        for (int seed : new int[] {4, -3, Integer.MAX_VALUE - 4}) {
            int least = 100000;
            int most = -1;
            int free = 0;
            for (int i = 0; i < 20; i++) {
                int owed = bell.years(seed + i, 9, 4, 8, 20, 0);
                least = Math.min(least, owed);
                most = Math.max(most, owed);
                free += owed == 0 ? 1 : 0;
            }
            check.due("least", bell.span(seed, 20, 9, 4, 8, 20, 0), least);
            check.due("most", bell.span(seed, 20, 9, 4, 8, 20, 1), most);
            check.due("nothing OWED", bell.span(seed, 20, 9, 4, 8, 20, 2), free);
            check.due("they differ", least < most ? 1 : 0, 1);
        }
        check.due("all are free", bell.span(1, 20, 96, 0, 0, 99, 2), 20);
        check.due("of one", bell.span(9, 1, 9, 4, 8, 20, 1), bell.years(9, 9, 4, 8, 20, 0));
    }

    private static void images() {
        OwedBell bell = Check.told("owe 90;chest 40;cell 0;cell 5;monk 3;monk 4;", "asks");
        check.due("no IMAGE", bell.restore(), -1);
        check.due("an IMAGE", bell.image(), 1);
        Check.work(bell, "pay 10;swap 0 1;receipt 3;wax;wax;");
        check.due("a second", bell.image(), 2);
        Check.work(bell, "night;pay 5;");
        Check.work(bell, "night;pay 5;");
        check.due("a third", bell.image(), 3);
        check.due("no fourth", bell.image(), -1);
        check.due("kept", bell.kept(0), 3);
        bell.undo();
        bell.undo();
        bell.undo();
        check.due("nothing to undo", bell.kept(2), 0);
        Check.work(bell, "again 9 [night;wax;];");
        check.due("REFUSED", Check.work(bell, "wax;wax;"), 0);
        check.due("-1 leaves it", bell.told(11), 2);
        Check.law(bell, "asks/2");
        check.due("restored", bell.restore(), 2);
        check.due("none REFUSED", bell.told(11), 0);
        check.due("the LAW is the latest", bell.strokes(), 33);
        check.due("OWED", bell.told(0), 70);
        check.due("NIGHT", bell.told(2), 2);
        check.due("receipt", bell.told(7), 5);
        check.due("WORKS", bell.kept(2), 3);
        check.due("they can be undone", bell.undo(), 2);
        check.due("OWED", bell.told(0), 75);
        check.due("restored", bell.restore(), 1);
        check.due("wax", bell.told(5), 1);
        check.due("CELL", bell.monk(0, 1), 1);
        check.due("undone", bell.undo(), 0);
        check.due("CELL", bell.monk(0, 1), 0);
        Check.work(bell, "wax;wax;");
        check.due("restored", bell.restore(), 0);
        check.due("nothing REFUSED", bell.told(11), 0);
        check.due("no wax", bell.told(5), 0);
        Check.work(bell, "wax;wax;");
        check.due("none is left", bell.restore(), -1);
        check.due("-1 leaves it", bell.told(11), 1);
        OwedBell other = Check.told("owe 90;chest 40;");
        Check.work(other, "pay 1;");
        Check.work(other, "pay 2;");
        Check.work(other, "pay 3;");
        other.image();
        other.undo();
        other.undo();
        other.undo();
        Check.work(other, "pay 10;");
        Check.work(other, "night;");
        Check.work(other, "night;");
        check.due("restored", other.restore(), 0);
        check.due("what was ahead of the third WORK", other.undo(), 2);
        check.due("OWED", other.told(0), 87);
        check.due("what was ahead of the second", other.undo(), 1);
        check.due("OWED", other.told(0), 89);
        check.due("what was ahead of the first", other.undo(), 0);
        check.due("OWED", other.told(0), 90);
        check.due("an IMAGE behind them", bell.image(), 1);
        check.due("a new ABBEY", Check.abbey(bell, ""), 0);
        check.due("takes it away", bell.restore(), -1);
    }

    private static void keeping() {
        OwedBell bell = new OwedBell();
        Check.feed(bell, "abc");
        check.due("20 bytes", bell.kept(1), 20);
        bell.image();
        check.due("1 IMAGE", bell.kept(0), 1);
        bell.law(0);
        check.due("empty", bell.kept(1), 0);
        Check.work(bell, "");
        Check.work(bell, "night;");
        check.due("2 WORKS", bell.kept(2), 2);
        check.due("another", bell.kept(3), -1);
        check.due("another", bell.kept(-1), -1);
        Check.feed(bell, "abc");
        bell.restore();
        check.due("the TAPE is in no IMAGE", bell.kept(1), 20);
        check.due("no WORKS in it", bell.kept(2), 0);
        bell.law(0);
        bell.image();
        check.due("a BOOK", Check.book(bell, "1 1;"), 1);
        bell.restore();
        check.due("the BOOK is in no IMAGE", bell.told(10), 1);
    }
}
