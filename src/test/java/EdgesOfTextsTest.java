/** Boundary cases of promises 1 to 7: a new object, the TAPE, ABBEY, LAW, WORK and BOOK as texts, their FAULTS. */
public final class EdgesOfTextsTest {
    private static final String SIGNS_AROUND = "\u0000\t\n\u001f!/:@A`{\u007f\u00a0\u00ff";
    private static final int CANNOT = 1;
    private static final int NUMBER = 2;
    private static final int MANY = 3;
    private static Edge edge;

    public static void main(String[] args) throws Exception {
        edge = new Edge("EdgesOfTextsTest");
        newObject();
        tape();
        abbeyLength();
        abbeyTakesAll();
        abbeyWithout();
        abbeyNumbers();
        abbeyCounts();
        lastCounts();
        blanksNumbersWords();
        abbeyFaults();
        lawLength();
        lawStrokes();
        lawWords();
        lawValues();
        lawFaults();
        openOnes();
        workLength();
        workNumbers();
        workFaults();
        stepsBegun();
        sixteenWorks();
        bookLength();
        bookLines();
        faultPlaces();
        edge.end(1, 7);
    }

    // ---- promise 1 ----

    private static void newObject() {
        edge.holds(1, "An ABBEY without CLAUSES.");
        OwedBell bell = new OwedBell();
        edge.due("100 without owe", bell.told(0), 100);
        edge.due("5 without rate", bell.ahead(12, 1), 105);
        edge.due("0 without chest", bell.told(1), 0);
        edge.due("asks / 10 without LAW", bell.strokes(), 10);
        for (int what = 2; what <= 12; what++) {
            edge.due("told " + what, bell.told(what), 0);
        }
        for (int what = 0; what <= 3; what++) {
            edge.due("many " + what, bell.many(what), 0);
        }
        for (int what = 0; what <= 2; what++) {
            edge.due("kept " + what, bell.kept(what), 0);
        }
        edge.due("no FAULT", bell.fault(), -1);
        edge.due("no refusal", bell.status(0) + bell.status(1), 0);
        OwedBell told = Check.told("owe 7;");
        Check.abbey(told, "");
        edge.same("as an ABBEY told without CLAUSES", Edge.look(bell), Edge.look(told));
        edge.refused("no MONK 0", (b, a) -> b.monk(0, 0), bell, new int[0], Edge.NONE_SUCH);
        edge.refused("no VILLAGE 0", (b, a) -> b.village(0, 0), bell, new int[0], Edge.NONE_SUCH);
        edge.refused("no CELL 0", (b, a) -> b.cell(0), bell, new int[0], Edge.NONE_SUCH);
        edge.refused("no HEIR 0", (b, a) -> b.heir(0), bell, new int[0], Edge.NONE_SUCH);
        edge.due("its first WORK", bell.work(0), 0);
        edge.due("harvests bring 0", bell.ahead(24, 1), 110);
    }

    // ---- promise 2 ----

    private static void tape() {
        edge.holds(2, "Twenty bytes come on the TAPE, of each number the highest first: how many there are");
        for (int place = 0; place < 20; place++) {
            for (int sign : new int[] {0, 127, 128, 255}) {
                int[] a = new int[5];
                java.util.Arrays.fill(a, 0x20202020);
                int shift = 24 - place % 4 * 8;
                a[place / 4] = a[place / 4] & ~(255 << shift) | sign << shift;
                OwedBell bell = new OwedBell();
                edge.due("twenty", bell.feed(a[0], a[1], a[2], a[3], a[4]), 20);
                edge.due("byte " + sign + " at " + place, bell.abbey(20), -9);
                edge.due("its place", bell.fault(), place);
            }
        }
        edge.holds(2, "NONE, doing nothing, if there would be more than 600.");
        OwedBell bell = new OwedBell();
        String text = Check.times(99, "      ") + "owe 7;";
        for (int i = 0; i < 600; i += 20) {
            edge.due("after " + i, feedTwenty(bell, text.substring(i, i + 20)), i + 20);
            edge.due("on the TAPE", bell.kept(1), i + 20);
        }
        edge.due("after 600", feedTwenty(bell, "owe 8;owe 8;owe 8;ow"), -1);
        edge.due("after 600 again", bell.feed(-1, -1, -1, -1, -1), -1);
        edge.due("600 stay", bell.kept(1), 600);
        edge.due("no refusal is counted", bell.status(0) + bell.status(1), 0);
        edge.due("they are read", bell.abbey(600), 0);
        edge.due("as they were", bell.told(0), 7);
        edge.due("then there are twenty again", feedTwenty(bell, "owe 8;owe 8;owe 8;ow"), 20);
        edge.due("from the beginning", bell.abbey(6), 0);
        edge.due("the later bytes", bell.told(0), 8);
    }

    private static int feedTwenty(OwedBell bell, String text) {
        int before = bell.kept(1);
        Check.feed(bell, text);
        return bell.kept(1) == before ? bell.feed(0, 0, 0, 0, 0) : bell.kept(1);
    }

    // ---- promise 3 ----

    private static void abbeyLength() {
        edge.holds(3, "The first n bytes of the TAPE (empty then) are the ABBEY");
        String text = "owe 123;owe 45;owe 6;";
        int[][] ends = {{0, 100}, {8, 123}, {15, 45}, {21, 6}, {22, -1}, {20, -1}, {7, -1}};
        for (int[] end : ends) {
            OwedBell bell = new OwedBell();
            Check.feed(bell, text);
            int answer = bell.abbey(end[0]);
            edge.due("of " + end[0] + " bytes", answer, end[1] < 0 ? CANNOT - 10 : 0);
            edge.due("OWED by " + end[0] + " bytes", bell.told(0), end[1] < 0 ? 100 : end[1]);
            edge.due("empty then", bell.kept(1), 0);
            edge.due("twenty again", bell.feed(0, 0, 0, 0, 0), 20);
        }
        edge.holds(3, "IllegalArgumentException: n is not 0 to the TAPE's bytes (it stays).");
        textLength("abbey", (b, a) -> b.abbey(a[0]), 600);
        edge.holds(3, "An ABBEY is a text of up to 600 bytes: { CLAUSE \";\" }, at most 60.");
        OwedBell bell = new OwedBell();
        edge.due("599 bytes", Check.abbey(bell, "cell 1;monk 2;" + Check.times(585, " ")), 1);
        edge.due("600 bytes", Check.abbey(bell, Check.times(592, " ") + "chest 5;"), 0);
        edge.due("the last one is read", bell.told(1), 5);
        edge.due("600 bytes, 60 CLAUSES", Check.abbey(bell, Check.times(59, "chest   7;") + "cell    9;"), 0);
        edge.due("the 59th", bell.told(1), 7);
        edge.due("the 60th", bell.cell(0), 9);
        edge.due("59 CLAUSES", Check.abbey(bell, Check.times(59, "owe 3;")), 0);
        edge.due("60 CLAUSES", Check.abbey(bell, Check.times(59, "owe 3;") + "owe 4; "), 0);
        edge.due("the 60th", bell.told(0), 4);
        edge.abbeyFault(Check.times(60, "owe 3;") + "owe 4;", MANY, 360);
        edge.abbeyFault(Check.times(60, "owe 3;") + "  owe 4;", MANY, 362);
        edge.abbeyFault(Check.times(60, "owe 3;") + "owe", MANY, 360);
        edge.abbeyFault(Check.times(61, "owe 3;") + "owe 4;", MANY, 360);
    }

    /** Of a text's call n may be 0 to the TAPE's bytes and to most; else it is refused, and the TAPE stays. */
    private static void textLength(String name, Edge.Call call, int most) {
        for (int bytes : new int[] {0, 20, 100, 140, 160, 600}) {
            OwedBell bell = Edge.full();
            Check.feed(bell, "owe 7;cell 0;" + Check.times(Math.max(bytes - 13, 0), "\u0001"));
            if (bytes == 0) {
                bell.law(0);
            }
            int fault = bell.fault();
            String before = Edge.look(bell);
            for (int n : new int[] {-1, Integer.MIN_VALUE, bytes + 1, Math.min(bytes, most) + 1, most + 1, Integer.MAX_VALUE}) {
                if (n < 0 || n > bytes || n > most) {
                    edge.refused(name + " " + n + " of " + bytes, call, bell, new int[] {n}, Edge.BAD);
                }
            }
            edge.due(name + ": the TAPE stays", bell.kept(1), bytes);
            edge.due(name + ": the FAULT is the latest text's", bell.fault(), fault);
            edge.same(name + ": nothing else is changed", Edge.look(bell), before);
            if (bytes > 0) {
                edge.due(name + ": the bytes are the same", bell.abbey(13), 0);
                edge.due(name + ": their owe", bell.told(0), 7);
            }
        }
        for (int bytes : new int[] {20, most / 20 * 20, Math.min(most / 20 * 20 + 20, 600)}) {
            for (int n : new int[] {0, 1, bytes - 1, bytes, most - 1, most}) {
                if (n <= bytes && n <= most) {
                    OwedBell bell = new OwedBell();
                    Check.feed(bell, Check.times(bytes, " "));
                    call.ask(bell, n);
                    edge.due(name + " of " + n + " is read", bell.status(1) + bell.kept(1), 0);
                }
            }
        }
    }

    private static void abbeyTakesAll() {
        edge.holds(3, "(NIGHT 0; no LAW, BOOK, IMAGES, nothing to undo)");
        OwedBell bell = Edge.full();
        bell.image();
        edge.due("full", bell.kept(0) + bell.kept(2) + bell.told(10), 3 + 3 + 2);
        String abbey = "village 1;cell 0;cell 0;monk 9;monk 9;";
        Check.abbey(bell, abbey);
        OwedBell fresh = Check.told(abbey);
        edge.same("as a new one", Edge.look(bell), Edge.look(fresh));
        edge.due("all pairs fit, as by no lines", bell.fits(0), 4200);
        edge.due("no IMAGE", bell.restore(), -1);
        edge.due("nothing to undo", bell.undo(), -1);
        edge.due("sixteen WORKS behind it", worksUntilFull(bell), 16);
        Check.abbey(bell, "");
        edge.due("sixteen WORKS again", worksUntilFull(bell), 16);
        edge.due("three IMAGES again", bell.image() + bell.image() + bell.image() + bell.image(), 1 + 2 + 3 - 1);

        edge.holds(3, "how many MONKS; or the FAULT less 10 (all but the TAPE stays)");
        for (int monks = 0; monks <= 8; monks++) {
            edge.due(monks + " MONKS", Check.abbey(bell, Check.times(8, "cell 0;") + Check.times(monks, "monk 0;")), monks);
        }
        edge.abbeyFault("owe 5;rate 4;chest 3;village 2;cell 1;monk 0;heir 9;!", CANNOT, 52);
        edge.abbeyFault("owe 5;rate 4;chest 3;village 2;cell 1;monk 0;heir 0;", NUMBER, 50);
        edge.abbeyFault("owe 5;rate 4;chest 3;village 2;cell 1;monk 0;monk 0;", MANY, 45);
    }

    private static void abbeyWithout() {
        String rich = "owe 9;rate 20;chest 900;" + harvests(99) + "village 3;cell 0;cell 2;monk 0;monk 0;heir 9;";
        edge.holds(3, "(NIGHT 0; no LAW, BOOK, IMAGES, nothing to undo)");
        for (String works : new String[] {"receipt 9;again 7[night;];pay 1;alms 0;wax;receipt 5;swap 0 1;", "receipt 5;night;pay 1;",
            "again 5[night;];alms 0;", "wax;swap 0 1;", ""}) {
            for (String law : new String[] {"0", "999"}) {
                OwedBell bell = Check.told(rich, law);
                Check.book(bell, "0 0;");
                Check.work(bell, works + "pay 999;");
                Check.abbey(bell, rich);
                edge.same("behind " + works, Edge.look(bell), Edge.look(Check.told(rich)));
                edge.due("no BOOK behind " + works, bell.fits(0), 4200);
            }
        }
        edge.holds(3, "(crowns, 0 to 9999; 100 without)");
        OwedBell bell = Check.told(rich);
        Check.abbey(bell, rich);
        Check.abbey(bell, rich.replace("chest 900", "chest 9000"));
        Check.abbey(bell, "");
        edge.same("nothing is left of ABBEYS before", Edge.look(bell), Edge.look(new OwedBell()));
        edge.due("100 without", bell.told(0), 100);
        edge.due("5 without", bell.ahead(12, 1), 105);
        edge.due("0 without", bell.told(1), 0);
        edge.due("0 without, in no NIGHT", night(bell, 12), 0);
    }

    private static int worksUntilFull(OwedBell bell) {
        int works = 0;
        while (works < 20 && bell.work(0) == 0) {
            works++;
        }
        return works;
    }

    private static void abbeyNumbers() {
        edge.holds(3, "\"owe\" N (crowns, 0 to 9999; 100 without)");
        clause("owe ", 0, 9999, bell -> bell.told(0));
        edge.holds(3, "\"rate\" R (0 to 20 in a hundred; 5 without)");
        clause("rate ", 0, 20, bell -> bell.ahead(12, 1) - 100);
        edge.due("without", Check.told("").ahead(12, 1), 105);
        edge.holds(3, "\"chest\" N (0 to 999; 0 without)");
        clause("chest ", 0, 999, bell -> bell.told(1));
        edge.holds(3, "\"village\" A (VILLAGES, numbered from 0 on, 6 at most: gives A, 1 to 20)");
        clause("village 5;village ", 1, 20, bell -> bell.village(1, 0));
        edge.holds(3, "\"cell\" D (CELLS likewise, 8: D far, 0 to 9)");
        clause("cell 5;cell ", 0, 9, bell -> bell.cell(1));
        edge.holds(3, "sleeps by noise up to L, 0 to 40");
        clause("cell 0;cell 0;monk 5;monk ", 0, 40, bell -> bell.monk(1, 0));
        edge.holds(3, "\"heir\" N (HEIRS likewise, 4: claims N, 1 to 99)");
        clause("heir 5;heir ", 1, 99, bell -> bell.heir(1));
        edge.holds(3, "N crowns come, 0 to 99; 0 without");
        clause("harvest 0 ", 0, 99, bell -> night(bell, 1));
        edge.holds(3, "\"harvest\" M N (in NIGHTS of which M is left by 12, 0 to 11");
        for (int m = 0; m <= 11; m++) {
            OwedBell bell = Check.told("harvest " + m + " 99;");
            edge.due("ahead of NIGHT " + m, night(bell, m), 0);
            edge.due("behind NIGHT " + m, night(bell, 1), 99);
            edge.due("ahead of the next", night(bell, 11), 99);
            edge.due("behind the next", night(bell, 1), 198);
        }
        edge.abbeyFault("harvest 12 9;", NUMBER, 8);
        edge.abbeyFault("harvest  12 100;", NUMBER, 9);
        edge.abbeyFault("harvest 11 100;", NUMBER, 11);
        edge.abbeyFault("harvest 4294967296 1;", NUMBER, 8);
    }

    private static int night(OwedBell bell, int times) {
        Check.work(bell, "again " + times + "[night;];");
        return bell.told(1);
    }

    private interface Seen {
        int of(OwedBell bell);
    }

    /** A number behind text may be least to most; seen is where it is told. */
    private static void clause(String text, int least, int most, Seen seen) {
        for (int n : new int[] {least, least + 1, most - 1, most}) {
            for (String zeros : new String[] {"", "0", "0000000000"}) {
                OwedBell bell = new OwedBell();
                edge.isTrue(text + zeros + n, Check.abbey(bell, text + zeros + n + ";") >= 0);
                edge.due(text + zeros + n, seen.of(bell), n);
            }
        }
        if (least > 0) {
            edge.abbeyFault(text + (least - 1) + ";", NUMBER, text.length());
            edge.abbeyFault(text + "000;", NUMBER, text.length());
        }
        edge.abbeyFault(text + (most + 1) + ";", NUMBER, text.length());
        edge.abbeyFault(text + "  " + (most + 1) + ";", NUMBER, text.length() + 2);
        edge.abbeyFault(text + (4294967296L + least) + ";", NUMBER, text.length());
        edge.abbeyFault(text + "1844674407370955162" + (6 + least) + ";", NUMBER, text.length());
        edge.abbeyFault(text + most + "000000000000000000;", NUMBER, text.length());
        edge.abbeyFault(text + "-1;", CANNOT, text.length());
        edge.abbeyFault(text + ";", CANNOT, text.length());
        edge.abbeyFault(text, CANNOT, text.length());
        edge.abbeyFault(text + (most + 1), NUMBER, text.length());
    }

    private static void abbeyCounts() {
        edge.holds(3, "(VILLAGES, numbered from 0 on, 6 at most");
        counted("", "village 3;", 6, 0);
        edge.holds(3, "\"cell\" D (CELLS likewise, 8: D far, 0 to 9)");
        counted("", "cell 3;", 8, 1);
        edge.holds(3, "\"monk\" L (MONKS likewise, 8, no more than CELLS told ahead");
        counted(Check.times(8, "cell 0;"), "monk 3;", 8, 2);
        for (int cells = 0; cells < 8; cells++) {
            counted(Check.times(cells, "cell 0;"), "monk 3;", cells, 2);
        }
        edge.abbeyFault("monk 3;cell 0;", MANY, 0);
        edge.abbeyFault("cell 0;monk 3;monk 4;cell 0;", MANY, 14);
        edge.due("as many CELLS ahead each time", Check.abbey(new OwedBell(), "cell 0;monk 3;cell 0;monk 4;"), 2);
        edge.holds(3, "at first in the CELL of his number");
        OwedBell bell = Check.told(Check.times(8, "cell 0;") + Check.times(8, "monk 3;"));
        for (int i = 0; i < 8; i++) {
            edge.due("MONK " + i, bell.monk(i, 1), i);
        }
        edge.holds(3, "\"heir\" N (HEIRS likewise, 4: claims N, 1 to 99)");
        counted("", "heir 3;", 4, 3);
        edge.due("all of them", Check.abbey(new OwedBell(), Check.times(6, "village 9;") + Check.times(8, "cell 9;")
                + Check.times(8, "monk 9;") + Check.times(4, "heir 9;") + Check.times(34, "rate 9;")), 8);
    }

    /** Of these clauses most can stand behind text; one more is a FAULT at its word, whatever its number. */
    private static void counted(String text, String clause, int most, int what) {
        for (int n = Math.max(0, most - 1); n <= most; n++) {
            OwedBell bell = new OwedBell();
            edge.isTrue(n + " are fine: " + clause, Check.abbey(bell, text + Check.times(n, clause)) >= 0);
            edge.due(n + " are there: " + clause, bell.many(what), n);
        }
        String full = text + Check.times(most, clause);
        edge.abbeyFault(full + clause, MANY, full.length());
        edge.abbeyFault(full + "  " + clause + "x", MANY, full.length() + 2);
        edge.abbeyFault(full + clause.replace("3", "999"), MANY, full.length());
        edge.abbeyFault(full + clause.replace(" 3;", ""), MANY, full.length());
        edge.abbeyFault(full + clause.replace(" 3;", "s 3;"), CANNOT, full.length());
    }

    private static void lastCounts() {
        edge.holds(3, "Of owe, rate, chest the last counts.");
        OwedBell bell = Check.told("owe 0;rate 20;chest 999;owe 9999;rate 0;chest 0;");
        edge.due("OWED", bell.told(0), 9999);
        edge.due("the CHEST", bell.told(1), 0);
        edge.due("no interest", bell.ahead(60, 1), 9999);
        Check.abbey(bell, "rate 0;rate 20;");
        edge.due("of 100", bell.ahead(12, 1), 120);
        edge.holds(3, "of one M the last counts");
        OwedBell harvest = Check.told("harvest 0 99;harvest 1 50;harvest 0 0;");
        edge.due("of 0", night(harvest, 1), 0);
        edge.due("of 1", night(harvest, 1), 50);
    }

    private static void blanksNumbersWords() {
        edge.holds(3, "blanks (32) may stand ahead of all these, and at the end.");
        OwedBell bell = new OwedBell();
        edge.due("everywhere", Check.abbey(bell, "   cell   0   ;   harvest   0   9   ;   "), 0);
        edge.due("harvest", night(bell, 1), 9);
        edge.due("nowhere", Check.abbey(bell, "cell0;harvest0 8;"), 0);
        edge.due("harvest", night(bell, 1), 8);
        edge.due("alone", Check.abbey(bell, " "), 0);
        edge.due("600 of them", Check.abbey(bell, Check.times(600, " ")), 0);
        for (int i = 0; i < SIGNS_AROUND.length(); i++) {
            char sign = SIGNS_AROUND.charAt(i);
            edge.abbeyFault(sign + "owe 5;", CANNOT, 0);
            edge.abbeyFault("owe" + sign + "5;", CANNOT, 3);
            edge.abbeyFault("owe 5" + sign + ";", CANNOT, 5);
            edge.abbeyFault("owe 5;" + sign, CANNOT, 6);
        }
        edge.holds(3, "Numbers: digits, as many as stand there");
        edge.abbeyFault("owe 5 5;", CANNOT, 6);
        edge.abbeyFault("owe /5;", CANNOT, 4);
        edge.abbeyFault("owe 5/;", CANNOT, 5);
        edge.abbeyFault("owe :5;", CANNOT, 4);
        edge.abbeyFault("owe 9:;", CANNOT, 5);
        edge.abbeyFault("harvest 111;", NUMBER, 8);
        edge.due("0 and 9 are digits", Check.abbey(bell, "owe 0090;"), 0);
        edge.due("90", bell.told(0), 90);
        edge.due("zeros, 500 of them", Check.abbey(bell, "owe " + Check.times(500, "0") + "71;"), 0);
        edge.due("71", bell.told(0), 71);
        edge.holds(3, "WORDS: small letters, as many as stand there");
        for (String word : "owe rate chest village cell heir".split(" ")) {
            edge.isTrue(word, Check.abbey(bell, word + "9;") >= 0);
            edge.abbeyFault(word + "s 9;", CANNOT, 0);
            edge.abbeyFault(word + "a 9;", CANNOT, 0);
            edge.abbeyFault(word + "z 9;", CANNOT, 0);
            edge.abbeyFault("a" + word + " 9;", CANNOT, 0);
            edge.abbeyFault(otherLetter(word, 0) + " 9;", CANNOT, 0);
            edge.abbeyFault(otherLetter(word, word.length() - 1) + " 9;", CANNOT, 0);
            edge.abbeyFault(word.substring(1) + " 9;", CANNOT, 0);
            edge.abbeyFault(word.substring(0, word.length() - 1) + " 9;", CANNOT, 0);
            edge.abbeyFault(word.substring(0, 2) + " " + word.substring(2) + " 9;", CANNOT, 0);
            edge.abbeyFault(word.toUpperCase() + " 9;", CANNOT, 0);
        }
    }

    private static String otherLetter(String word, int at) {
        return word.substring(0, at) + (char) (word.charAt(at) + 1) + word.substring(at + 1);
    }

    private static void abbeyFaults() {
        edge.holds(3, "1 what can't stand there (at the length, if the text ends too early)");
        String text = " harvest  3 45 ;";
        int[] places = {-1, -1, 1, 1, 1, 1, 1, 1, 8, 9, 10, 11, 12, 13, 14, 15};
        for (int n = 0; n < places.length; n++) {
            if (places[n] >= 0) {
                edge.abbeyFault(text.substring(0, n), CANNOT, places[n]);
            }
        }
        edge.due("the whole", Check.abbey(new OwedBell(), text), 0);
        edge.abbeyFault("owe 5;;", CANNOT, 6);
        edge.abbeyFault(";", CANNOT, 0);
        edge.abbeyFault("owe 5;7;", CANNOT, 6);
        edge.abbeyFault("owe owe;", CANNOT, 4);
        edge.abbeyFault("owe 5 rate 4;", CANNOT, 6);
        edge.abbeyFault("pay 5;", CANNOT, 0);
        edge.holds(3, "FAULTS, the first from the left, at its first byte");
        edge.abbeyFault("owe 10000;monk 1;owe", NUMBER, 4);
        edge.abbeyFault("monk 99;owe 10000;owe", MANY, 0);
        edge.abbeyFault("owes 10000;monk 1;", CANNOT, 0);
        edge.abbeyFault("rate 21 !", NUMBER, 5);
        edge.abbeyFault("rate 20 !;monk 1;", CANNOT, 8);
        edge.abbeyFault("harvest 12 100;", NUMBER, 8);
        edge.abbeyFault("harvest 12;", NUMBER, 8);
        edge.holds(3, "3 a CLAUSE, VILLAGE, CELL, MONK or HEIR (at its word; a MONK without a CELL, too)");
        edge.abbeyFault("monk 1;", MANY, 0);
        edge.abbeyFault("   monk", MANY, 3);
        edge.abbeyFault("monk!", MANY, 0);
        edge.holds(3, "of one the least.");
        edge.abbeyFault(Check.times(60, "owe 1;") + "owes 1;", CANNOT, 360);
        edge.abbeyFault(Check.times(60, "owe 1;") + "5", CANNOT, 360);
        edge.abbeyFault(Check.times(60, "owe 1;") + "!", CANNOT, 360);
        edge.abbeyFault(Check.times(60, "owe 1;") + "monk 1;", MANY, 360);
    }

    // ---- promise 4 ----

    private static void lawLength() {
        edge.holds(4, "Likewise the LAW (n to 150): 1.");
        textLength("law", (b, a) -> b.law(a[0]), 150);
        edge.holds(4, "A LAW is a text of up to 150 bytes");
        OwedBell bell = Edge.full();
        String undone = Edge.unwind(Edge.full());
        edge.due("149 bytes", Check.law(bell, "1" + Check.times(74, "+1")), 1);
        edge.due("75", bell.strokes(), 75);
        edge.due("150 bytes", Check.law(bell, "11" + Check.times(74, "+1")), 1);
        edge.due("85", bell.strokes(), 85);
        edge.due("150 bytes, blanks", Check.law(bell, Check.times(149, " ") + "7"), 1);
        edge.due("7", bell.strokes(), 7);
        Check.feed(bell, "8" + Check.times(150, " "));
        edge.refused("151 bytes", (b, a) -> b.law(151), bell, new int[0], Edge.BAD);
        edge.due("the LAW stays", bell.strokes(), 7);
        edge.due("the TAPE stays", bell.kept(1), 160);
        edge.due("150 of them", bell.law(150), 1);
        edge.due("8", bell.strokes(), 8);
        edge.due("the TAPE is empty", bell.kept(1), 0);
        edge.due("the BOOK stays", bell.told(10), 2);
        edge.same("what can be undone stays", Edge.unwind(bell), undone);
    }

    private static void strokes(String law, int due) {
        OwedBell bell = Edge.full();
        edge.due("law \"" + law + "\"", Check.law(bell, law), 1);
        edge.due("strokes by \"" + law + "\"", bell.would(0, 0, 0, 0, 0, 0, 0), due);
    }

    private static void lawStrokes() {
        edge.holds(4, "E, at the end nothing more; without: asks / 10.");
        int[][] tens = {{0, 0}, {9, 0}, {10, 1}, {19, 1}, {20, 2}, {9999, 999}};
        for (int[] row : tens) {
            OwedBell bell = Check.told("owe " + row[0] + ";");
            edge.due("of " + row[0], bell.strokes(), row[1]);
            edge.due("of so many asks", bell.would(row[0], 9, 9, 9, 1, 1, 9), row[1]);
        }
        edge.due("99,999 by 10 are too many", new OwedBell().would(99999, 0, 0, 0, 0, 0, 0), 999);
        edge.holds(4, "what comes out, 0 at least, 999 at most.");
        strokes("0-2", 0);
        strokes("0-1", 0);
        strokes("0", 0);
        strokes("1", 1);
        strokes("998", 998);
        strokes("999", 999);
        strokes("999+1", 999);
        strokes("999*999", 999);
        edge.holds(4, "U: N (0 to 999)");
        strokes("000000000000000000000999", 999);
        strokes("0000000000", 0);
        edge.lawFault("1000", NUMBER, 0);
        edge.lawFault("1 + 1000", NUMBER, 4);
        edge.lawFault("4294967296", NUMBER, 0);
        edge.lawFault("18446744073709551617", NUMBER, 0);
    }

    private static void lawWords() {
        edge.holds(4, "\"asks\" (what is owed less receipts that hang, 0 at least)");
        for (int n = 29; n <= 31; n++) {
            OwedBell bell = Check.told("owe 30;", "asks+5");
            Check.work(bell, "receipt " + n + ";");
            edge.due("30 less " + n, bell.strokes(), Math.max(0, 30 - n) + 5);
        }
        edge.holds(4, "\"paid\" (crowns paid since the latest NIGHT)");
        OwedBell paid = Check.told("owe 3000;chest 999;" + harvests(99), "paid-998");
        Check.work(paid, "again 12[night;];pay 998;");
        edge.due("998", paid.strokes(), 0);
        Check.work(paid, "pay 1;");
        edge.due("999", paid.strokes(), 1);
        Check.work(paid, "pay 1;pay 900;");
        edge.due("more than 999", paid.strokes(), 1900 - 998);
        edge.due("told", paid.told(4), 1900);
        Check.work(paid, "night;");
        edge.due("none since", paid.strokes(), 0);
        edge.holds(4, "\"night\" (its number)");
        OwedBell night = Check.told("", "night");
        for (int i = 0; i < 3; i++) {
            edge.due("NIGHT " + i, night.strokes(), i);
            Check.work(night, "night;");
        }
        edge.due("asked about 999", night.would(0, 0, 999, 0, 0, 0, 0), 999);
        edge.holds(4, "\"quiet\" (NIGHTS without strokes, by now, one behind the other)");
        OwedBell quiet = Check.told("", "quiet/3");
        int[] due = {0, 0, 0, 1, 0, 0, 0, 1, 0};
        for (int i = 0; i < due.length; i++) {
            edge.due("NIGHT " + i, quiet.strokes(), due[i]);
            edge.due("QUIET " + i, quiet.told(3), i % 4);
            Check.work(quiet, "night;");
        }
        edge.holds(4, "\"wax\", \"storm\" (1 or 0), \"chest\" (what is in it)");
        OwedBell rest = Check.told("chest 3;", "wax*100+storm*50+chest");
        edge.due("no wax, no storm", rest.strokes(), 3);
        Check.work(rest, "wax;");
        edge.due("wax", rest.strokes(), 103);
        Check.work(rest, "night;");
        edge.due("no wax", rest.strokes(), 3);
        edge.due("a storm", rest.would(0, 0, 0, 0, 0, 1, 3), 53);
        edge.due("storms in YEARS", rest.years(1, 2, 16, 0, 0, 1), 106);
        edge.lawFault("owed", CANNOT, 0);
        for (String word : "asks paid night quiet wax storm chest".split(" ")) {
            edge.lawFault(word + "z", CANNOT, 0);
            edge.lawFault("a" + word, CANNOT, 0);
            edge.lawFault(otherLetter(word, 0), CANNOT, 0);
            edge.lawFault(otherLetter(word, word.length() - 1), CANNOT, 0);
            edge.lawFault(word.substring(0, 2), CANNOT, 0);
            edge.lawFault(word.substring(1), CANNOT, 0);
            edge.lawFault(word + "5", CANNOT, word.length());
            edge.lawFault(word + " " + word, CANNOT, word.length() + 1);
            edge.lawFault(word.substring(0, 1).toUpperCase() + word.substring(1), CANNOT, 0);
        }
    }

    private static String harvests(int crowns) {
        StringBuilder text = new StringBuilder();
        for (int i = 0; i < 12; i++) {
            text.append("harvest ").append(i).append(' ').append(crowns).append(';');
        }
        return text.toString();
    }

    private static void lawValues() {
        String max = "(512*512*512*16-1)";
        String min = "(512*512*512*16)";
        edge.holds(4, "Values are whole numbers of 32 bits that wrap");
        strokes(max, 999);
        strokes(min, 0);
        strokes(max + "+1", 0);
        strokes(max + "+1-1", 999);
        strokes(min + "-1", 999);
        strokes("0-" + min, 0);
        strokes("0-" + min + "-1", 999);
        strokes(max + "*2", 0);
        strokes(max + "*2+9", 7);
        strokes(min + "*2+7", 7);
        strokes("512*512*512*32+7", 7);
        strokes("512*512*512*31/(512*512*512)+20", 19);
        strokes(max + "/(512*512*64)", 127);
        strokes("least[" + max + "," + min + "]+" + max + "+6", 5);
        strokes("most[" + max + "," + min + "]-" + max + "+6", 6);
        edge.holds(4, "/ cuts, % leaves (with the sign of what is divided), by 0 both are 0.");
        String[] laws = {"7/2", "6/2", "5/2", "(0-7)/2+9", "7/(0-2)+9", "(0-7)/(0-2)", "1/2", "(0-1)/2+9", "7%2", "6%2",
            "(0-7)%2+9", "7%(0-2)", "(0-7)%(0-2)+9", "5%7", "(0-5)%7+9", "9/0", "9%0", "0/0", "0%0", "(0-9)/0", "(0-9)%0",
            "9/0+4", "4+9%0", min + "/(0-1)+9", min + "%(0-1)+9", min + "/1+" + max + "+9", min + "%10+9", max + "%10",
            min + "/0+9", "0/5", "0%5"};
        int[] due = {3, 3, 2, 6, 6, 3, 0, 9, 1, 0, 8, 1, 8, 5, 4, 0, 0, 0, 0, 0, 0, 4, 4, 0, 9, 8, 1, 7, 9, 0, 0};
        for (int i = 0; i < laws.length; i++) {
            strokes(laws[i], due[i]);
        }
        edge.holds(4, "E: T { + or - T }. T: U { * or / or % U }.");
        strokes("9-4-3", 2);
        strokes("9-4+3", 8);
        strokes("2+3*4", 14);
        strokes("2*3+4", 10);
        strokes("100/10/5", 2);
        strokes("100/10*5", 50);
        strokes("100%7*3", 6);
        strokes("3*100%7", 6);
        strokes("9-(4-3)", 8);
        edge.holds(4, "\"least\" \"[\" E \",\" E \"]\", \"most\" \"[\" E \",\" E \"]\", or \"(\" E \")\"");
        strokes("least[4,5]", 4);
        strokes("least[5,5]", 5);
        strokes("least[6,5]", 5);
        strokes("most[4,5]", 5);
        strokes("most[5,5]", 5);
        strokes("most[6,5]", 6);
        strokes("least[0-4,3]+9", 5);
        strokes("most[0-4,0-3]+9", 6);
        strokes("most[1+1,1*1]*least[2+2,3]", 6);
    }

    private static void lawFaults() {
        edge.holds(4, "1 what can't stand there (at the length, if the text ends too early)");
        String law = " most [ 12 , ( asks ) ] ";
        int[] places = {0, 1, 1, 1, 1, 5, 6, 7, 8, 9, 10, 11, 12, 13, 14, 15, 15, 15, 15, 19, 20, 21, 22};
        for (int n = 0; n < places.length; n++) {
            edge.lawFault(law.substring(0, n), CANNOT, places[n]);
        }
        strokes(law.substring(0, 23), 12);
        strokes(law, 12);
        Object[][] faults = {{"  ", 2}, {"5 5", 2}, {"5;", 1}, {"5)", 1}, {"5]", 1}, {"5,", 1}, {"()", 1},
            {"(5", 2}, {"(5]", 2}, {"(5,6)", 2}, {"least", 5}, {"least 5", 6}, {"least(5,6)", 5}, {"least[]", 6},
            {"least[5]", 7}, {"least[5;6]", 7}, {"least[5,]", 8}, {"least[5,6", 9}, {"least[5,6)", 9}, {"least[5,6,7]", 9},
            {"least[5,6]]", 10}, {"[5,6]", 0}, {"+5", 0}, {"-5", 0}, {"5+", 2}, {"5+-5", 2}, {"5**5", 2}, {"5+ ", 3},
            {"*5", 0}, {"5//5", 2}, {"5%", 2}, {"5^5", 1}, {"5 min 5", 2}, {"pay", 0}, {"5.5", 1}};
        for (Object[] row : faults) {
            edge.lawFault((String) row[0], CANNOT, (Integer) row[1]);
        }
        for (int i = 0; i < SIGNS_AROUND.length(); i++) {
            char sign = SIGNS_AROUND.charAt(i);
            edge.lawFault(sign + "asks", CANNOT, 0);
            edge.lawFault("asks" + sign, CANNOT, sign == '/' ? 5 : 4);
            edge.lawFault("4 " + sign + " asks %", CANNOT, sign == '/' ? 10 : 2);
        }
        edge.holds(4, "FAULTS, the first from the left, at its first byte");
        edge.lawFault("1000+owed", NUMBER, 0);
        edge.lawFault("owed+1000", CANNOT, 0);
        edge.lawFault("5+1000+", NUMBER, 2);
        edge.lawFault("(1000", NUMBER, 1);
        edge.lawFault("least[1000]", NUMBER, 6);
        edge.lawFault("least[5,1000)", NUMBER, 8);
    }

    private static void openOnes() {
        edge.holds(4, "or a 7th of ( least most again that is open at one time");
        String[] opens = {"(", "least[1,", "most[1,", "least[", "most["};
        String[] closes = {")", "]", "]", ",9]", ",0]"};
        for (int i = 0; i < opens.length; i++) {
            for (int n = 5; n <= 6; n++) {
                edge.due(n + " of " + opens[i], Check.law(new OwedBell(),
                        Check.times(n, opens[i]) + "1" + Check.times(n, closes[i])), 1);
            }
            for (int k = 0; k < opens.length; k++) {
                String six = Check.times(6, opens[k]);
                edge.lawFault(six + opens[i] + "1", MANY, six.length());
                edge.lawFault(six + "1 + " + opens[i] + "1", MANY, six.length() + 4);
                edge.lawFault(six + " " + opens[i].charAt(0) + opens[i].substring(1).replaceAll("\\[.*", ""), MANY, six.length() + 1);
            }
        }
        String six = Check.times(6, "(") + "1" + Check.times(6, ")");
        strokes(six + "+" + six + "*" + six, 2);
        strokes("least[(((((7))))),(((((8)))))]", 7);
        edge.lawFault("least[((((((7)))))),8]", MANY, 11);
        edge.lawFault("least[8,((((((7))))))]", MANY, 13);
        strokes(Check.times(5, "(") + "least[1,2]+most[3,4]+(5)" + Check.times(5, ")"), 10);
        edge.lawFault(six + "+(" + six + ")", MANY, 20);
        edge.holds(4, "of one the least.");
        edge.lawFault(Check.times(6, "(") + "leasts[1,2]", CANNOT, 6);
        edge.lawFault(Check.times(6, "(") + "[1,2]", CANNOT, 6);
        edge.lawFault(Check.times(6, "(") + "1000", NUMBER, 6);
        edge.lawFault(Check.times(6, "("), CANNOT, 6);

        edge.holds(5, "or a 7th of ( least most again that is open at one time");
        for (int n = 5; n <= 6; n++) {
            edge.due(n + " agains", Check.work(new OwedBell(), Check.times(n, "again 1[") + "wax;" + Check.times(n, "];")), 1);
        }
        edge.workFault(Check.times(7, "again 1[") + "wax;" + Check.times(7, "];"), MANY, 48);
        edge.workFault(Check.times(6, "again 1[") + "wax; again", MANY, 53);
        edge.workFault(Check.times(6, "again 1[") + "again 31[", MANY, 48);
        edge.workFault(Check.times(6, "again 1[") + "agains 1[", CANNOT, 48);
        edge.due("closed ones are not open", Check.work(new OwedBell(), Check.times(5, "again 1[") + "again 1[];again 1[];"
                + "again 1[wax;];" + Check.times(5, "];") + "again 1[again 1[night;];];"), 2);
    }

    // ---- promise 5 ----

    private static void workLength() {
        edge.holds(5, "Likewise WORK (n to 150), which is done");
        textLength("work", (b, a) -> b.work(a[0]), 150);
        edge.holds(5, "WORK is a text of up to 150 bytes: { STEP \";\" }.");
        OwedBell bell = new OwedBell();
        edge.due("149 bytes", Check.work(bell, " wax;" + Check.times(24, "night;")), 25);
        edge.due("NIGHT", bell.told(2), 24);
        edge.due("150 bytes", Check.work(bell, Check.times(25, "night;")), 25);
        edge.due("NIGHT", bell.told(2), 49);
        edge.due("150 blanks", Check.work(bell, Check.times(150, " ")), 0);
        Check.feed(bell, Check.times(25, "night;") + " ");
        edge.refused("151 bytes", (b, a) -> b.work(151), bell, new int[0], Edge.BAD);
        edge.due("none is done", bell.told(2), 49);
        edge.due("WORKS", bell.kept(2), 3);
        edge.due("the TAPE stays", bell.kept(1), 160);
        edge.due("150 of them", bell.work(150), 25);
        edge.due("the TAPE is empty", bell.kept(1), 0);
        edge.holds(5, "how many STEPS were done (agains not counted, nor REFUSED ones)");
        edge.due("no STEPS", bell.work(0), 0);
        edge.due("an again of none", Check.work(bell, "again 0[night;];"), 0);
        edge.due("an empty again", Check.work(bell, "again 30[];"), 0);
        edge.due("one REFUSED", Check.work(bell, "pay 1;"), 0);
        edge.due("one done", Check.work(bell, "again 1[wax;];"), 1);
        edge.due("two done, two REFUSED", Check.work(bell, "wax;night;again 2[wax;];pay 1;"), 2);
        edge.due("REFUSED", bell.told(11), 3);
    }

    private static void step(String text, int least, int most) {
        for (int n : new int[] {least, least + 1, most - 1, most}) {
            if (n >= least && n <= most) {
                edge.isTrue(text + n, Check.work(Edge.full(), text + n + rest(text)) >= 0);
                edge.isTrue(text + "000000000000" + n, Check.work(Edge.full(), text + "000000000000" + n + rest(text)) >= 0);
            }
        }
        if (least > 0) {
            edge.workFault(text + (least - 1) + rest(text), NUMBER, text.length());
        }
        edge.workFault(text + (most + 1) + rest(text), NUMBER, text.length());
        edge.workFault(text + "4294967297" + rest(text), NUMBER, text.length());
        edge.workFault(text + "18446744073709551617" + rest(text), NUMBER, text.length());
        edge.workFault(text + "-1" + rest(text), CANNOT, text.length());
        edge.workFault(text + rest(text), CANNOT, text.length());
        edge.workFault(text, CANNOT, text.length());
        edge.workFault(text + "  " + (most + 1), NUMBER, text.length() + 2);
    }

    private static String rest(String text) {
        return text.startsWith("again") ? "[];" : text.equals("swap ") ? " 0;" : ";";
    }

    private static void workNumbers() {
        edge.holds(5, "\"pay\" N (1 to 999)");
        step("pay ", 1, 999);
        edge.holds(5, "\"alms\" V");
        step("alms ", 0, 1);
        edge.holds(5, "\"receipt\" N (1 to 999)");
        step("receipt ", 1, 999);
        edge.holds(5, "\"swap\" A B (MONKS)");
        edge.workFault("swap 2 0;", NUMBER, 5);
        edge.workFault("swap 0 2;", NUMBER, 7);
        step("swap 0 ", 0, 1);
        edge.workFault("swap 2 2;", NUMBER, 5);
        edge.workFault("swap 2;", NUMBER, 5);
        edge.workFault("swap 1;", CANNOT, 6);
        edge.workFault("swap 01;", CANNOT, 7);
        edge.holds(5, "\"night\", or \"again\" N \"[\" { STEP \";\" } \"]\" (N 0 to 30)");
        step("again ", 0, 30);
        for (int n : new int[] {0, 1, 29, 30}) {
            edge.due("again " + n, Check.work(new OwedBell(), "again " + n + "[night;];"), n);
        }
        edge.holds(5, "2 a number that is none such");
        OwedBell none = new OwedBell();
        edge.due("alms without VILLAGES", Check.work(none, "alms 0;"), NUMBER - 10);
        edge.due("swap without MONKS", Check.work(none, "swap 0 0;"), NUMBER - 10);
        edge.due("place", none.fault(), 5);
        OwedBell most = Check.told(Check.times(6, "village 1;") + Check.times(8, "cell 0;") + Check.times(8, "monk 0;"));
        edge.due("the last ones", Check.work(most, "alms 5;swap 7 6;swap 0 7;"), 3);
        edge.due("one behind the last", Check.work(most, "alms 6;"), NUMBER - 10);
        edge.due("one behind the last", Check.work(most, "swap 8 0;"), NUMBER - 10);
        edge.due("one behind the last", Check.work(most, "swap 0 8;"), NUMBER - 10);
    }

    private static void workFaults() {
        edge.holds(5, "or the FAULT less 10 (none is)");
        String text = " again  3 [ pay 12 ; wax ; ] ;";
        int[] places = {-1, -1, 1, 1, 1, 1, 6, 7, 8, 9, 10, 11, 12, 12, 12, 15, 16, 17, 18, 19, 20, 21, 21, 21, 24, 25, 26, 27, 28, 29};
        for (int n = 0; n < places.length; n++) {
            if (places[n] >= 0) {
                edge.workFault(text.substring(0, n), CANNOT, places[n]);
            }
        }
        edge.due("the whole", Check.work(new OwedBell(), text), 1);
        Object[][] faults = {{"night", 5}, {"night;;", 6}, {";", 0}, {"5;", 0}, {"night 5;", 6}, {"wax 5;", 4}, {"nights;", 0},
            {"owe 5;", 0}, {"];", 0}, {"night;];", 6}, {"again 3[night];", 13}, {"again 3[night;]", 15}, {"again 3[night;];];", 16},
            {"again 3 night;", 8}, {"again[night;];", 5}, {"again 3[[night;];];", 8}, {"again 3(night;);", 7}, {"pay;", 3},
            {"pay 1 2;", 6}, {"swap 0,1;", 6}, {"Night;", 0}, {"night,", 5}};
        for (Object[] row : faults) {
            edge.workFault((String) row[0], CANNOT, (Integer) row[1]);
            edge.workFault("night;wax;" + row[0], CANNOT, (Integer) row[1] + 10);
        }
        for (String word : "pay alms wax receipt swap night again".split(" ")) {
            edge.workFault(word + "z 1;", CANNOT, 0);
            edge.workFault("a" + word + " 1;", CANNOT, 0);
            edge.workFault(otherLetter(word, 0) + " 1;", CANNOT, 0);
            edge.workFault(otherLetter(word, word.length() - 1) + " 1;", CANNOT, 0);
            edge.workFault(word.substring(1) + " 1;", CANNOT, 0);
            edge.workFault(word.substring(0, word.length() - 1) + " 1;", CANNOT, 0);
        }
        edge.holds(5, "FAULTS, the first from the left, at its first byte");
        edge.workFault("pay 1000;nights;", NUMBER, 4);
        edge.workFault("nights;pay 1000;", CANNOT, 0);
        edge.workFault("again 31 night;", NUMBER, 6);
        edge.workFault("again 1[again 31[pay 0;];];", NUMBER, 14);
    }

    private static void begun(String text, int done, int refused) {
        OwedBell bell = Check.told("owe 9;chest 9;village 1;cell 0;cell 0;monk 0;monk 0;");
        edge.due("done by " + text, Check.work(bell, text), done);
        edge.due("REFUSED by " + text, bell.told(11), refused);
        edge.due("it can be undone: " + text, bell.undo(), 0);
        edge.due("NIGHT, undone: " + text, bell.told(2), 0);
    }

    private static void stepsBegun() {
        edge.holds(5, "200 STEPS at most are begun by one WORK (an again, too, each time it is come to; REFUSED ones, too), "
                + "what would come behind is left out.");
        begun(Check.times(6, "again 30[night;];"), 180, 0);
        // 14 are begun by an again of 13
        String most = Check.times(6, "again 30[night;];");
        begun(most + "again 11[night;];", 191, 0);
        begun(most + "again 12[night;];", 192, 0);
        begun(most + "again 13[night;];", 193, 0);
        begun(most + "again 14[night;];", 193, 0);
        begun(most + "again 12[night;];wax;", 193, 0);
        begun(most + "again 12[night;];wax;wax;", 193, 0);
        begun(most + "again 11[night;];wax;wax;wax;", 192, 1);
        begun(most + "again 13[night;];wax;", 193, 0);
        begun(most + "again 12[night;];pay 10;wax;", 192, 1);
        begun(most + "again 11[night;];pay 10;wax;", 192, 1);
        // the 200th is an again: nothing in it is begun
        begun(most + "again 12[night;];again 9[wax;];", 192, 0);
        begun(most + "again 11[night;];again 9[wax;];", 192, 0);
        // an again of none, and an empty one, is begun each time: six in each of 30, then 18 or 19
        String six = "again 30[again 0[];again 9[];again 0[];again 9[];again 0[wax;];again 0[];];";
        begun(six + "again 17[again 0[];];night;", 1, 0);
        begun(six + "again 18[again 0[];];night;", 0, 0);
        begun(six + "again 16[again 9[];];night;night;", 2, 0);
        begun(six + "again 17[again 9[];];night;night;", 1, 0);
        begun("again 30[pay 10;pay 10;pay 10;pay 10;pay 10;pay 10;];night;again 20[pay 10;];", 1, 197);
        begun("again 30[swap 0 0;swap 0 0;swap 0 0;swap 0 0;swap 0 0;swap 0 0;];again 17[pay 10;];night;", 1, 197);
        begun("again 30[swap 0 0;swap 0 0;swap 0 0;swap 0 0;swap 0 0;swap 0 0;];again 18[pay 10;];night;", 0, 198);
        begun("again 30[again 30[again 30[again 30[again 30[again 30[night;];];];];];];wax;", 188, 0);
        begun("again 30[again 30[again 30[again 30[again 30[again 30[];];];];];];wax;", 0, 0);
        OwedBell bell = new OwedBell();
        edge.due("one WORK", Check.work(bell, Check.times(7, "again 30[night;];")), 193);
        edge.due("the next begins 200 of its own", Check.work(bell, Check.times(7, "again 30[night;];")), 193);
        edge.due("NIGHT", bell.told(2), 386);
    }

    private static void sixteenWorks() {
        edge.holds(5, "-20 behind the exception, ahead of the FAULT (nothing is read, there is no FAULT, the TAPE is empty then): "
                + "16 WORKS are there that were not undone.");
        OwedBell bell = Check.told("chest 50;");
        for (int i = 1; i <= 16; i++) {
            edge.due("WORK " + i, Check.work(bell, i == 16 ? "wax;wax;" : "pay 1;"), 1);
            edge.due("to undo", bell.kept(2), i);
        }
        String before = Edge.look(bell);
        edge.due("a FAULT ahead", Check.book(bell, " x"), -9);
        edge.due("its place", bell.fault(), 1);
        edge.refused("the exception goes ahead", (b, a) -> b.work(1), bell, new int[0], Edge.BAD);
        edge.due("it leaves the FAULT", bell.fault(), 1);
        Check.feed(bell, "pay 1;");
        edge.refused("the exception goes ahead", (b, a) -> b.work(21), bell, new int[0], Edge.BAD);
        edge.refused("the exception goes ahead", (b, a) -> b.work(-1), bell, new int[0], Edge.BAD);
        edge.due("the TAPE stays", bell.kept(1), 20);
        edge.due("a 17th", bell.work(6), -20);
        edge.due("there is no FAULT", bell.fault(), -1);
        edge.due("the TAPE is empty then", bell.kept(1), 0);
        edge.due("a 17th with a FAULT", Check.work(bell, "pay 1000;"), -20);
        edge.due("there is no FAULT", bell.fault(), -1);
        edge.due("a 17th without STEPS", bell.work(0), -20);
        edge.due("-20 leaves what was REFUSED", bell.told(11), 1);
        edge.same("nothing is done", Edge.look(bell), before);
        edge.due("no refusal but three", bell.status(1), 3);
        edge.due("undone", bell.undo(), 15);
        edge.due("a FAULT again", Check.work(bell, "pay 1000;"), -8);
        edge.due("a FAULT is no WORK", bell.kept(2), 15);
        edge.due("a 16th again", Check.work(bell, "pay 1;"), 1);
        edge.due("a 17th again", Check.work(bell, "pay 1;"), -20);
        bell.image();
        bell.undo();
        bell.undo();
        edge.due("14 are left", bell.kept(2), 14);
        edge.due("restored", bell.restore(), 0);
        edge.due("16 again", Check.work(bell, "pay 1;"), -20);
        Check.abbey(bell, "");
        edge.due("none in a new ABBEY", Check.work(bell, "wax;"), 1);
    }

    // ---- promise 6 ----

    private static void bookLength() {
        edge.holds(6, "Likewise the BOOK (n to 100): how many lines.");
        textLength("book", (b, a) -> b.book(a[0]), 100);
        OwedBell bell = Check.told("", "7");
        edge.due("99 bytes", Check.book(bell, "0 7;" + Check.times(95, " ")), 1);
        edge.due("100 bytes", Check.book(bell, Check.times(91, " ") + "0 7;1 00;"), 2);
        edge.due("both lines are read", bell.fits(0), 0);
        Check.feed(bell, "0 7;" + Check.times(97, " "));
        edge.refused("101 bytes", (b, a) -> b.book(101), bell, new int[0], Edge.BAD);
        edge.due("the BOOK stays", bell.told(10), 2);
        edge.due("the TAPE stays", bell.kept(1), 120);
        edge.due("100 of them", bell.book(100), 1);
        edge.due("one line", bell.fits(0), 4200);
        edge.due("no lines", bell.book(0), 0);
        edge.due("no lines", bell.told(10), 0);
        edge.due("blanks are no lines", Check.book(bell, "   "), 0);
    }

    private static void bookLines() {
        edge.holds(6, "A BOOK is a text of up to 100 bytes: { I N \";\" }, 8 lines at most, no I twice");
        OwedBell bell = new OwedBell();
        String lines = "";
        for (int i = 0; i < 8; i++) {
            lines = lines + i + " 10;";
            edge.due(i + 1 + " lines", Check.book(bell, lines), i + 1);
            edge.due("told", bell.told(10), i + 1);
        }
        edge.holds(6, "a line (at its I) too many");
        edge.bookFault(lines + "8 10;", MANY, 40);
        edge.bookFault(lines + "  8 10;", MANY, 42);
        edge.bookFault(lines + "8", MANY, 40);
        edge.bookFault(lines + "8 1000;", MANY, 40);
        edge.holds(6, "2 a number that is none such (an I twice)");
        edge.bookFault("0 10;0 10;", NUMBER, 5);
        edge.bookFault("0 10; 00 11;", NUMBER, 6);
        edge.bookFault("7 0;8 0;7 0;", NUMBER, 8);
        edge.bookFault("59 0;59", NUMBER, 5);
        edge.bookFault("7 0;7 1000;", NUMBER, 4);
        edge.holds(6, "in NIGHT I (0 to 59) N strokes were counted (0 to 999)");
        for (int i : new int[] {0, 1, 58, 59}) {
            edge.due("I " + i, Check.book(bell, i + " 9;"), 1);
            edge.due("I 000000000000" + i, Check.book(bell, "000000000000" + i + " 9;"), 1);
            edge.due("not in it", Check.book(bell, i + " 9;" + (59 - i) + " 9;"), 2);
        }
        for (int n : new int[] {0, 1, 998, 999}) {
            OwedBell by = Check.told("", "night*0+" + n);
            edge.due("N " + n, Check.book(by, "0 " + n + ";59 000000" + n + ";"), 2);
            edge.due("N " + n + " is right", by.fits(0), 4200);
        }
        edge.bookFault("60 9;", NUMBER, 0);
        edge.bookFault("  60 9;", NUMBER, 2);
        edge.bookFault("9 1000;", NUMBER, 2);
        edge.bookFault("4294967296 1;", NUMBER, 0);
        edge.bookFault("18446744073709551616 1;", NUMBER, 0);
        edge.bookFault("1 4294967296;", NUMBER, 2);
        edge.holds(6, "1 what can't stand there (at the length, if the text ends too early)");
        Object[][] faults = {{"9", 1}, {"9 ", 2}, {"9 1", 3}, {"9 1 ", 4}, {"9;", 1}, {";", 0}, {"-1 1;", 0}, {"9 -1;", 2},
            {"9,1;", 1}, {"9 1,", 3}, {"9 1 1;", 4}, {"9 1;;", 4}, {"x", 0}, {"9 x;", 2}, {"9 1;x", 4}, {"night 9;", 0}};
        for (Object[] row : faults) {
            edge.bookFault((String) row[0], CANNOT, (Integer) row[1]);
        }
        for (int i = 0; i < SIGNS_AROUND.length(); i++) {
            edge.bookFault(SIGNS_AROUND.charAt(i) + "9 1;", CANNOT, 0);
            edge.bookFault("9" + SIGNS_AROUND.charAt(i) + "1;", CANNOT, 1);
            edge.bookFault("9 1;" + SIGNS_AROUND.charAt(i), CANNOT, 4);
        }
        edge.bookFault("91;", NUMBER, 0);
        edge.holds(6, "of one the least.");
        edge.bookFault(lines + "60 1;", NUMBER, 40);
        edge.bookFault(lines + "7 1;", NUMBER, 40);
        edge.bookFault(lines + "x", CANNOT, 40);
        edge.bookFault(lines + ";", CANNOT, 40);
    }

    // ---- promise 7 ----

    private static void faultPlaces() {
        edge.holds(7, "The place of the FAULT of the latest text; NONE without.");
        OwedBell bell = new OwedBell();
        edge.due("no text", bell.fault(), -1);
        Check.abbey(bell, "!");
        edge.due("at 0", bell.fault(), 0);
        edge.refused("no text", (b, a) -> b.abbey(1), bell, new int[0], Edge.BAD);
        edge.due("the latest text's", bell.fault(), 0);
        bell.law(0);
        edge.due("the length, 0", bell.fault(), 0);
        Check.law(bell, Check.times(150, " "));
        edge.due("the length, 150", bell.fault(), 150);
        Check.abbey(bell, Check.times(599, " ") + "!");
        edge.due("the last of 600", bell.fault(), 599);
        Check.abbey(bell, Check.times(597, " ") + "owe");
        edge.due("the length, 600", bell.fault(), 600);
        Check.work(bell, Check.times(150, " "));
        edge.due("none in a WORK", bell.fault(), -1);
        Check.book(bell, Check.times(99, " ") + "5");
        edge.due("the length, 100", bell.fault(), 100);
        bell.feed(0, 0, 0, 0, 0);
        bell.image();
        bell.restore();
        bell.undo();
        edge.due("no text since", bell.fault(), 100);
        bell.book(0);
        edge.due("none in a BOOK", bell.fault(), -1);
        Check.work(bell, "x");
        edge.due("at 0", bell.fault(), 0);
        bell.abbey(0);
        edge.due("none in an ABBEY", bell.fault(), -1);
        Check.book(bell, "x");
        Check.law(bell, "7");
        edge.due("none in a LAW", bell.fault(), -1);
    }
}
