/** Boundary cases of promises 1 to 3: a new object, the TAPE, an ABBEY as a text with its FAULTS. */
public final class EdgesOfAbbeyTest {
    private static Edge edge;

    public static void main(String[] args) throws Exception {
        edge = new Edge("EdgesOfAbbeyTest");
        newObject();
        tape();
        abbeyLength();
        abbeyTakesAll();
        abbeyWithout();
        behindALargerOne();
        abbeyNumbers();
        abbeyCounts();
        lastCounts();
        blanksNumbersWords();
        abbeyFaults();
        edge.end(1, 3);
    }

    // ---- promise 1 ----

    private static void newObject() {
        edge.holds(1, "An ABBEY without CLAUSES.");
        OwedBell bell = new OwedBell();
        edge.due("100 without owe", bell.told(0), 100);
        edge.due("5 without rate", bell.ahead(12, 1), 105);
        edge.due("0 without chest", bell.told(1), 0);
        edge.due("asks / 10 without LAW", bell.strokes(), 10);
        for (int what = 2; what <= 12; what++) {
            edge.due("told " + what, bell.told(what), 0);
        }
        for (int what = 0; what <= 3; what++) {
            edge.due("many " + what, bell.many(what), 0);
        }
        for (int what = 0; what <= 2; what++) {
            edge.due("kept " + what, bell.kept(what), 0);
        }
        edge.due("no FAULT", bell.fault(), -1);
        edge.due("no refusal", bell.status(0) + bell.status(1), 0);
        OwedBell told = Check.told("owe 7;");
        Check.abbey(told, "");
        edge.same("as an ABBEY told without CLAUSES", Edge.look(bell), Edge.look(told));
        edge.refused("no MONK 0", (b, a) -> b.monk(0, 0), bell, new int[0], Edge.NONE_SUCH);
        edge.refused("no VILLAGE 0", (b, a) -> b.village(0, 0), bell, new int[0], Edge.NONE_SUCH);
        edge.refused("no CELL 0", (b, a) -> b.cell(0), bell, new int[0], Edge.NONE_SUCH);
        edge.refused("no HEIR 0", (b, a) -> b.heir(0), bell, new int[0], Edge.NONE_SUCH);
        edge.due("its first WORK", bell.work(0), 0);
        edge.due("harvests bring 0", bell.ahead(24, 1), 110);
    }

    // ---- promise 2 ----

    private static void tape() {
        edge.holds(2, "Twenty bytes come on the TAPE, of each number the highest first: how many there are");
        for (int place = 0; place < 20; place++) {
            for (int sign : new int[] {0, 127, 128, 255}) {
                int[] a = new int[5];
                java.util.Arrays.fill(a, 0x20202020);
                int shift = 24 - place % 4 * 8;
                a[place / 4] = a[place / 4] & ~(255 << shift) | sign << shift;
                OwedBell bell = new OwedBell();
                edge.due("twenty", bell.feed(a[0], a[1], a[2], a[3], a[4]), 20);
                edge.due("byte " + sign + " at " + place, bell.abbey(20), -9);
                edge.due("its place", bell.fault(), place);
            }
        }
        edge.holds(2, "NONE, doing nothing, if there would be more than 600.");
        OwedBell bell = new OwedBell();
        String text = Check.times(99, "      ") + "owe 7;";
        for (int i = 0; i < 600; i += 20) {
            edge.due("after " + i, feedTwenty(bell, text.substring(i, i + 20)), i + 20);
            edge.due("on the TAPE", bell.kept(1), i + 20);
        }
        edge.due("after 600", feedTwenty(bell, "owe 8;owe 8;owe 8;ow"), -1);
        edge.due("after 600 again", bell.feed(-1, -1, -1, -1, -1), -1);
        edge.due("600 stay", bell.kept(1), 600);
        edge.due("no refusal is counted", bell.status(0) + bell.status(1), 0);
        edge.due("they are read", bell.abbey(600), 0);
        edge.due("as they were", bell.told(0), 7);
        edge.due("then there are twenty again", feedTwenty(bell, "owe 8;owe 8;owe 8;ow"), 20);
        edge.due("from the beginning", bell.abbey(6), 0);
        edge.due("the later bytes", bell.told(0), 8);
    }

    private static int feedTwenty(OwedBell bell, String text) {
        int before = bell.kept(1);
        Check.feed(bell, text);
        return bell.kept(1) == before ? bell.feed(0, 0, 0, 0, 0) : bell.kept(1);
    }

    // ---- promise 3 ----

    private static void abbeyLength() {
        edge.holds(3, "The first n bytes of the TAPE (empty then) are the ABBEY");
        String text = "owe 123;owe 45;owe 6;";
        int[][] ends = {{0, 100}, {8, 123}, {15, 45}, {21, 6}, {22, -1}, {20, -1}, {7, -1}};
        for (int[] end : ends) {
            OwedBell bell = new OwedBell();
            Check.feed(bell, text);
            int answer = bell.abbey(end[0]);
            edge.due("of " + end[0] + " bytes", answer, end[1] < 0 ? Edge.CANNOT - 10 : 0);
            edge.due("OWED by " + end[0] + " bytes", bell.told(0), end[1] < 0 ? 100 : end[1]);
            edge.due("empty then", bell.kept(1), 0);
            edge.due("twenty again", bell.feed(0, 0, 0, 0, 0), 20);
        }
        edge.holds(3, "IllegalArgumentException: n is not 0 to the TAPE's bytes (it stays).");
        edge.textLength("abbey", (b, a) -> b.abbey(a[0]), 600);
        edge.holds(3, "An ABBEY is a text of up to 600 bytes: { CLAUSE \";\" }, at most 60.");
        OwedBell bell = new OwedBell();
        edge.due("599 bytes", Check.abbey(bell, "cell 1;monk 2;" + Check.times(585, " ")), 1);
        edge.due("600 bytes", Check.abbey(bell, Check.times(592, " ") + "chest 5;"), 0);
        edge.due("the last one is read", bell.told(1), 5);
        edge.due("600 bytes, 60 CLAUSES", Check.abbey(bell, Check.times(59, "chest   7;") + "cell    9;"), 0);
        edge.due("the 59th", bell.told(1), 7);
        edge.due("the 60th", bell.cell(0), 9);
        edge.due("59 CLAUSES", Check.abbey(bell, Check.times(59, "owe 3;")), 0);
        edge.due("60 CLAUSES", Check.abbey(bell, Check.times(59, "owe 3;") + "owe 4; "), 0);
        edge.due("the 60th", bell.told(0), 4);
        edge.abbeyFault(Check.times(60, "owe 3;") + "owe 4;", Edge.MANY, 360);
        edge.abbeyFault(Check.times(60, "owe 3;") + "  owe 4;", Edge.MANY, 362);
        edge.abbeyFault(Check.times(60, "owe 3;") + "owe", Edge.MANY, 360);
        edge.abbeyFault(Check.times(61, "owe 3;") + "owe 4;", Edge.MANY, 360);
    }

    private static void abbeyTakesAll() {
        edge.holds(3, "(NIGHT 0; no LAW, BOOK, IMAGES, nothing to undo)");
        OwedBell bell = Edge.full();
        bell.image();
        edge.due("full", bell.kept(0) + bell.kept(2) + bell.told(10), 3 + 3 + 2);
        String abbey = "village 1;cell 0;cell 0;monk 9;monk 9;";
        Check.abbey(bell, abbey);
        OwedBell fresh = Check.told(abbey);
        edge.same("as a new one", Edge.look(bell), Edge.look(fresh));
        edge.due("all pairs fit, as by no lines", bell.fits(0), 4200);
        edge.due("no IMAGE", bell.restore(), -1);
        edge.due("nothing to undo", bell.undo(), -1);
        edge.due("sixteen WORKS behind it", worksUntilFull(bell), 16);
        Check.abbey(bell, "");
        edge.due("sixteen WORKS again", worksUntilFull(bell), 16);
        edge.due("three IMAGES again", bell.image() + bell.image() + bell.image() + bell.image(), 1 + 2 + 3 - 1);

        edge.holds(3, "how many MONKS; or the FAULT less 10 (all but the TAPE stays)");
        for (int monks = 0; monks <= 8; monks++) {
            edge.due(monks + " MONKS", Check.abbey(bell, Check.times(8, "cell 0;") + Check.times(monks, "monk 0;")), monks);
        }
        edge.abbeyFault("owe 5;rate 4;chest 3;village 2;cell 1;monk 0;heir 9;!", Edge.CANNOT, 52);
        edge.abbeyFault("owe 5;rate 4;chest 3;village 2;cell 1;monk 0;heir 0;", Edge.NUMBER, 50);
        edge.abbeyFault("owe 5;rate 4;chest 3;village 2;cell 1;monk 0;monk 0;", Edge.MANY, 45);
    }

    private static void abbeyWithout() {
        String rich = "owe 9;rate 20;chest 900;" + Check.harvests(99) + "village 3;cell 0;cell 2;monk 0;monk 0;heir 9;";
        edge.holds(3, "(NIGHT 0; no LAW, BOOK, IMAGES, nothing to undo)");
        for (String works : new String[] {"receipt 9;again 7[night;];pay 1;alms 0;wax;receipt 5;swap 0 1;", "receipt 5;night;pay 1;",
            "again 5[night;];alms 0;", "wax;swap 0 1;", ""}) {
            for (String law : new String[] {"0", "999"}) {
                OwedBell bell = Check.told(rich, law);
                Check.book(bell, "0 0;");
                Check.work(bell, works + "pay 999;");
                Check.abbey(bell, rich);
                edge.same("behind " + works, Edge.look(bell), Edge.look(Check.told(rich)));
                edge.due("no BOOK behind " + works, bell.fits(0), 4200);
            }
        }
        edge.holds(3, "(crowns, 0 to 9999; 100 without)");
        OwedBell bell = Check.told(rich);
        Check.abbey(bell, rich);
        Check.abbey(bell, rich.replace("chest 900", "chest 9000"));
        Check.abbey(bell, "");
        edge.same("nothing is left of ABBEYS before", Edge.look(bell), Edge.look(new OwedBell()));
        edge.due("100 without", bell.told(0), 100);
        edge.due("5 without", bell.ahead(12, 1), 105);
        edge.due("0 without", bell.told(1), 0);
        edge.due("0 without, in no NIGHT", night(bell, 12), 0);
    }

    private static void behindALargerOne() {
        edge.holds(3, "The first n bytes of the TAPE (empty then) are the ABBEY");
        String large = "owe 90;chest 90;" + Check.harvests(9) + Check.times(6, "village 20;") + Check.times(8, "cell 0;")
                + Check.times(8, "monk 40;") + Check.times(4, "heir 99;");
        String[] small = {"", "village 1;", "cell 0;cell 0;cell 0;", "cell 0;cell 0;cell 9;monk 0;monk 1;", "heir 5;heir 30;",
            "village 3;village 4;cell 9;monk 2;heir 1;harvest 5 1;"};
        for (String abbey : small) {
            OwedBell bell = Check.told(large);
            asked(bell);
            Check.abbey(bell, large);
            Check.work(bell, "alms 5;swap 7 0;receipt 9;night;");
            bell.image();
            Check.abbey(bell, abbey);
            edge.same("\"" + abbey + "\" behind a larger one", asked(bell), asked(Check.told(abbey)));
            edge.same("all that is told of it", Edge.look(bell), Edge.look(Check.told(abbey)));
        }
    }

    private static String asked(OwedBell bell) {
        StringBuilder seen = new StringBuilder();
        for (int s : new int[] {0, 1, 3, 20, 100}) {
            seen.append(bell.beds(s)).append(' ').append(bell.sleepers(s)).append(' ').append(bell.level(s)).append("; ");
            for (int m = 0; m < bell.many(2); m++) {
                seen.append(bell.bed(m, s)).append(' ').append(bell.watch(m, s % 60)).append(' ');
            }
        }
        for (int k : new int[] {9, 1, 0}) {
            seen.append(bell.heirs(k, 0)).append(' ').append(bell.heirs(k, 1)).append(' ').append(bell.heirs(k, 2)).append("; ");
        }
        for (int what = 0; what <= 3; what++) {
            seen.append(bell.years(5, 30, 4, 4, 50, what)).append(' ').append(bell.ahead(60, what)).append("; ");
        }
        return seen.append(bell.span(5, 9, 30, 4, 4, 50, 0)).append(' ').append(bell.grows(105)).toString();
    }

    private static int worksUntilFull(OwedBell bell) {
        int works = 0;
        while (works < 20 && bell.work(0) == 0) {
            works++;
        }
        return works;
    }

    private static void abbeyNumbers() {
        edge.holds(3, "\"owe\" N (crowns, 0 to 9999; 100 without)");
        clause("owe ", 0, 9999, bell -> bell.told(0));
        edge.holds(3, "\"rate\" R (0 to 20 in a hundred; 5 without)");
        clause("rate ", 0, 20, bell -> bell.ahead(12, 1) - 100);
        edge.due("without", Check.told("").ahead(12, 1), 105);
        edge.holds(3, "\"chest\" N (0 to 999; 0 without)");
        clause("chest ", 0, 999, bell -> bell.told(1));
        edge.holds(3, "\"village\" A (VILLAGES, numbered from 0 on, 6 at most: gives A, 1 to 20)");
        clause("village 5;village ", 1, 20, bell -> bell.village(1, 0));
        edge.holds(3, "\"cell\" D (CELLS likewise, 8: D far, 0 to 9)");
        clause("cell 5;cell ", 0, 9, bell -> bell.cell(1));
        edge.holds(3, "sleeps by noise up to L, 0 to 40");
        clause("cell 0;cell 0;monk 5;monk ", 0, 40, bell -> bell.monk(1, 0));
        edge.holds(3, "\"heir\" N (HEIRS likewise, 4: claims N, 1 to 99)");
        clause("heir 5;heir ", 1, 99, bell -> bell.heir(1));
        edge.holds(3, "N crowns come, 0 to 99; 0 without");
        clause("harvest 0 ", 0, 99, bell -> night(bell, 1));
        edge.holds(3, "\"harvest\" M N (in NIGHTS of which M is left by 12, 0 to 11");
        for (int m = 0; m <= 11; m++) {
            OwedBell bell = Check.told("harvest " + m + " 99;");
            edge.due("ahead of NIGHT " + m, night(bell, m), 0);
            edge.due("behind NIGHT " + m, night(bell, 1), 99);
            edge.due("ahead of the next", night(bell, 11), 99);
            edge.due("behind the next", night(bell, 1), 198);
        }
        edge.abbeyFault("harvest 12 9;", Edge.NUMBER, 8);
        edge.abbeyFault("harvest  12 100;", Edge.NUMBER, 9);
        edge.abbeyFault("harvest 11 100;", Edge.NUMBER, 11);
        edge.abbeyFault("harvest 4294967296 1;", Edge.NUMBER, 8);
    }

    private static int night(OwedBell bell, int times) {
        Check.work(bell, "again " + times + "[night;];");
        return bell.told(1);
    }

    private interface Seen {
        int of(OwedBell bell);
    }

    /** A number behind text may be least to most; seen is where it is told. */
    private static void clause(String text, int least, int most, Seen seen) {
        for (int n : new int[] {least, least + 1, most - 1, most}) {
            for (String zeros : new String[] {"", "0", "0000000000"}) {
                OwedBell bell = new OwedBell();
                edge.isTrue(text + zeros + n, Check.abbey(bell, text + zeros + n + ";") >= 0);
                edge.due(text + zeros + n, seen.of(bell), n);
            }
        }
        if (least > 0) {
            edge.abbeyFault(text + (least - 1) + ";", Edge.NUMBER, text.length());
            edge.abbeyFault(text + "000;", Edge.NUMBER, text.length());
        }
        edge.abbeyFault(text + (most + 1) + ";", Edge.NUMBER, text.length());
        edge.abbeyFault(text + "  " + (most + 1) + ";", Edge.NUMBER, text.length() + 2);
        edge.abbeyFault(text + (4294967296L + least) + ";", Edge.NUMBER, text.length());
        edge.abbeyFault(text + "1844674407370955162" + (6 + least) + ";", Edge.NUMBER, text.length());
        edge.abbeyFault(text + most + "000000000000000000;", Edge.NUMBER, text.length());
        edge.abbeyFault(text + "-1;", Edge.CANNOT, text.length());
        edge.abbeyFault(text + ";", Edge.CANNOT, text.length());
        edge.abbeyFault(text, Edge.CANNOT, text.length());
        edge.abbeyFault(text + (most + 1), Edge.NUMBER, text.length());
    }

    private static void abbeyCounts() {
        edge.holds(3, "(VILLAGES, numbered from 0 on, 6 at most");
        counted("", "village 3;", 6, 0);
        edge.holds(3, "\"cell\" D (CELLS likewise, 8: D far, 0 to 9)");
        counted("", "cell 3;", 8, 1);
        edge.holds(3, "\"monk\" L (MONKS likewise, 8, no more than CELLS told ahead");
        counted(Check.times(8, "cell 0;"), "monk 3;", 8, 2);
        for (int cells = 0; cells < 8; cells++) {
            counted(Check.times(cells, "cell 0;"), "monk 3;", cells, 2);
        }
        edge.abbeyFault("monk 3;cell 0;", Edge.MANY, 0);
        edge.abbeyFault("cell 0;monk 3;monk 4;cell 0;", Edge.MANY, 14);
        edge.due("as many CELLS ahead each time", Check.abbey(new OwedBell(), "cell 0;monk 3;cell 0;monk 4;"), 2);
        edge.holds(3, "at first in the CELL of his number");
        OwedBell bell = Check.told(Check.times(8, "cell 0;") + Check.times(8, "monk 3;"));
        for (int i = 0; i < 8; i++) {
            edge.due("MONK " + i, bell.monk(i, 1), i);
        }
        edge.holds(3, "\"heir\" N (HEIRS likewise, 4: claims N, 1 to 99)");
        counted("", "heir 3;", 4, 3);
        edge.due("all of them", Check.abbey(new OwedBell(), Check.times(6, "village 9;") + Check.times(8, "cell 9;")
                + Check.times(8, "monk 9;") + Check.times(4, "heir 9;") + Check.times(34, "rate 9;")), 8);
    }

    /** Of these clauses most can stand behind text; one more is a FAULT at its word, whatever its number. */
    private static void counted(String text, String clause, int most, int what) {
        for (int n = Math.max(0, most - 1); n <= most; n++) {
            OwedBell bell = new OwedBell();
            edge.isTrue(n + " are fine: " + clause, Check.abbey(bell, text + Check.times(n, clause)) >= 0);
            edge.due(n + " are there: " + clause, bell.many(what), n);
        }
        String full = text + Check.times(most, clause);
        edge.abbeyFault(full + clause, Edge.MANY, full.length());
        edge.abbeyFault(full + "  " + clause + "x", Edge.MANY, full.length() + 2);
        edge.abbeyFault(full + clause.replace("3", "999"), Edge.MANY, full.length());
        edge.abbeyFault(full + clause.replace(" 3;", ""), Edge.MANY, full.length());
        edge.abbeyFault(full + clause.replace(" 3;", "s 3;"), Edge.CANNOT, full.length());
    }

    private static void lastCounts() {
        edge.holds(3, "Of owe, rate, chest the last counts.");
        OwedBell bell = Check.told("owe 0;rate 20;chest 999;owe 9999;rate 0;chest 0;");
        edge.due("OWED", bell.told(0), 9999);
        edge.due("the CHEST", bell.told(1), 0);
        edge.due("no interest", bell.ahead(60, 1), 9999);
        Check.abbey(bell, "rate 0;rate 20;");
        edge.due("of 100", bell.ahead(12, 1), 120);
        edge.holds(3, "of one M the last counts");
        OwedBell harvest = Check.told("harvest 0 99;harvest 1 50;harvest 0 0;");
        edge.due("of 0", night(harvest, 1), 0);
        edge.due("of 1", night(harvest, 1), 50);
    }

    private static void blanksNumbersWords() {
        edge.holds(3, "blanks (32) may stand ahead of all these, and at the end.");
        OwedBell bell = new OwedBell();
        edge.due("everywhere", Check.abbey(bell, "   cell   0   ;   harvest   0   9   ;   "), 0);
        edge.due("harvest", night(bell, 1), 9);
        edge.due("nowhere", Check.abbey(bell, "cell0;harvest0 8;"), 0);
        edge.due("harvest", night(bell, 1), 8);
        edge.due("alone", Check.abbey(bell, " "), 0);
        edge.due("600 of them", Check.abbey(bell, Check.times(600, " ")), 0);
        for (int i = 0; i < Edge.SIGNS_AROUND.length(); i++) {
            char sign = Edge.SIGNS_AROUND.charAt(i);
            edge.abbeyFault(sign + "owe 5;", Edge.CANNOT, 0);
            edge.abbeyFault("owe" + sign + "5;", Edge.CANNOT, 3);
            edge.abbeyFault("owe 5" + sign + ";", Edge.CANNOT, 5);
            edge.abbeyFault("owe 5;" + sign, Edge.CANNOT, 6);
        }
        edge.holds(3, "Numbers: digits, as many as stand there");
        edge.abbeyFault("owe 5 5;", Edge.CANNOT, 6);
        edge.abbeyFault("owe /5;", Edge.CANNOT, 4);
        edge.abbeyFault("owe 5/;", Edge.CANNOT, 5);
        edge.abbeyFault("owe :5;", Edge.CANNOT, 4);
        edge.abbeyFault("owe 9:;", Edge.CANNOT, 5);
        edge.abbeyFault("harvest 111;", Edge.NUMBER, 8);
        edge.due("0 and 9 are digits", Check.abbey(bell, "owe 0090;"), 0);
        edge.due("90", bell.told(0), 90);
        edge.due("zeros, 500 of them", Check.abbey(bell, "owe " + Check.times(500, "0") + "71;"), 0);
        edge.due("71", bell.told(0), 71);
        edge.holds(3, "WORDS: small letters, as many as stand there");
        for (String word : "owe rate chest village cell heir".split(" ")) {
            edge.isTrue(word, Check.abbey(bell, word + "9;") >= 0);
            edge.abbeyFault(word + "s 9;", Edge.CANNOT, 0);
            edge.abbeyFault(word + "a 9;", Edge.CANNOT, 0);
            edge.abbeyFault(word + "z 9;", Edge.CANNOT, 0);
            edge.abbeyFault("a" + word + " 9;", Edge.CANNOT, 0);
            edge.abbeyFault(Edge.otherLetter(word, 0) + " 9;", Edge.CANNOT, 0);
            edge.abbeyFault(Edge.otherLetter(word, word.length() - 1) + " 9;", Edge.CANNOT, 0);
            edge.abbeyFault(word.substring(1) + " 9;", Edge.CANNOT, 0);
            edge.abbeyFault(word.substring(0, word.length() - 1) + " 9;", Edge.CANNOT, 0);
            edge.abbeyFault(word.substring(0, 2) + " " + word.substring(2) + " 9;", Edge.CANNOT, 0);
            edge.abbeyFault(word.toUpperCase() + " 9;", Edge.CANNOT, 0);
        }
    }

    private static void abbeyFaults() {
        edge.holds(3, "1 what can't stand there (at the length, if the text ends too early)");
        String text = " harvest  3 45 ;";
        int[] places = {-1, -1, 1, 1, 1, 1, 1, 1, 8, 9, 10, 11, 12, 13, 14, 15};
        for (int n = 0; n < places.length; n++) {
            if (places[n] >= 0) {
                edge.abbeyFault(text.substring(0, n), Edge.CANNOT, places[n]);
            }
        }
        edge.due("the whole", Check.abbey(new OwedBell(), text), 0);
        edge.abbeyFault("owe 5;;", Edge.CANNOT, 6);
        edge.abbeyFault(";", Edge.CANNOT, 0);
        edge.abbeyFault("owe 5;7;", Edge.CANNOT, 6);
        edge.abbeyFault("owe owe;", Edge.CANNOT, 4);
        edge.abbeyFault("owe 5 rate 4;", Edge.CANNOT, 6);
        edge.abbeyFault("pay 5;", Edge.CANNOT, 0);
        edge.holds(3, "FAULTS, the first from the left, at its first byte");
        edge.abbeyFault("owe 10000;monk 1;owe", Edge.NUMBER, 4);
        edge.abbeyFault("monk 99;owe 10000;owe", Edge.MANY, 0);
        edge.abbeyFault("owes 10000;monk 1;", Edge.CANNOT, 0);
        edge.abbeyFault("rate 21 !", Edge.NUMBER, 5);
        edge.abbeyFault("rate 20 !;monk 1;", Edge.CANNOT, 8);
        edge.abbeyFault("harvest 12 100;", Edge.NUMBER, 8);
        edge.abbeyFault("harvest 12;", Edge.NUMBER, 8);
        edge.holds(3, "3 a CLAUSE, VILLAGE, CELL, MONK or HEIR (at its word; a MONK without a CELL, too)");
        edge.abbeyFault("monk 1;", Edge.MANY, 0);
        edge.abbeyFault("   monk", Edge.MANY, 3);
        edge.abbeyFault("monk!", Edge.MANY, 0);
        edge.holds(3, "of one the least.");
        edge.abbeyFault(Check.times(60, "owe 1;") + "owes 1;", Edge.CANNOT, 360);
        edge.abbeyFault(Check.times(60, "owe 1;") + "5", Edge.CANNOT, 360);
        edge.abbeyFault(Check.times(60, "owe 1;") + "!", Edge.CANNOT, 360);
        edge.abbeyFault(Check.times(60, "owe 1;") + "monk 1;", Edge.MANY, 360);
    }
}
