/** Promises 1 to 7: the TAPE, and ABBEY, LAW, WORK and BOOK as texts with their FAULTS. */
public final class TextsTest {
    private static final Check check = new Check("TextsTest");
    private static final String HOUSE = "village 3;cell 0;cell 1;monk 1;monk 2;";

    public static void main(String[] args) {
        aNewObject();
        theTape();
        abbeys();
        abbeyFaults();
        whatAnAbbeyTakesAway();
        laws();
        lawFaults();
        works();
        workFaults();
        books();
        bookFaults();
        faultIsOfTheLatestText();
        textsEndAtTheirLength();
        check.end();
    }

    private static void aNewObject() {
        OwedBell bell = new OwedBell();
        check.due("NONE", OwedBell.NONE, -1);
        int[] told = {100, 0, 0, 0, 0, 0, 0, 0, 0, 0, 0, 0, 0};
        for (int i = 0; i < told.length; i++) {
            check.due("new: told " + i, bell.told(i), told[i]);
        }
        for (int i = 0; i < 4; i++) {
            check.due("new: many " + i, bell.many(i), 0);
        }
        check.due("new: fault", bell.fault(), -1);
        check.due("new: strokes", bell.strokes(), 10);
        check.due("new: a year later", bell.ahead(12, 1), 105);
        check.due("new: kept 0", bell.kept(0), 0);
        check.due("new: kept 1", bell.kept(1), 0);
        check.due("new: kept 2", bell.kept(2), 0);
        check.due("new: undo", bell.undo(), -1);
        check.due("new: restore", bell.restore(), -1);
    }

    private static void theTape() {
        OwedBell bell = new OwedBell();
        for (int i = 1; i <= 30; i++) {
            check.due("feed " + i, bell.feed(0x20202020, 0x20202020, 0x20202020, 0x20202020, 0x20202020), 20 * i);
        }
        check.due("feed too much", bell.feed(1, 2, 3, 4, 5), -1);
        check.due("the TAPE stays", bell.kept(1), 600);
        check.bad("abbey 601", () -> bell.abbey(601));
        check.bad("abbey -1", () -> bell.abbey(-1));
        check.bad("law 151", () -> bell.law(151));
        check.bad("work 151", () -> bell.work(151));
        check.bad("book 101", () -> bell.book(101));
        check.due("the TAPE stays behind exceptions", bell.kept(1), 600);
        check.due("abbey 600", bell.abbey(600), 0);
        check.due("the TAPE is empty then", bell.kept(1), 0);
        check.bad("law 1 of an empty TAPE", () -> bell.law(1));
        check.bad("work 1 of an empty TAPE", () -> bell.work(1));
        check.bad("book 1 of an empty TAPE", () -> bell.book(1));
        bell.feed('o' << 24 | 'w' << 16 | 'e' << 8 | '8', ';' << 24, 0, 0, 0);
        check.due("of each number the highest first", bell.abbey(5), 0);
        check.due("owe 8", bell.told(0), 8);
        bell.feed(0xff202020, 0, 0, 0, 0);
        check.due("byte 255 can't stand there", bell.abbey(1), -9);
        check.due("the TAPE is empty behind a FAULT", bell.kept(1), 0);
        bell.feed(0x39000000, 0, 0, 0, 0);
        check.bad("law -1", () -> bell.law(-1));
        check.bad("work -1", () -> bell.work(-1));
        check.bad("book -1", () -> bell.book(-1));
        check.due("law 9 is still there", bell.law(1), 1);
    }

    private static void abbeys() {
        OwedBell bell = Check.told("owe 9999 ;rate20; chest 0999;harvest 11 99;village 20;village1;cell 9;"
                + "cell 0;monk 40;monk 0;heir 99;heir 1;  ");
        check.due("owed", bell.told(0), 9999);
        check.due("chest", bell.told(1), 999);
        int[] many = {2, 2, 2, 2};
        for (int i = 0; i < 4; i++) {
            check.due("many " + i, bell.many(i), many[i]);
        }
        check.due("alms", bell.village(0, 0), 20);
        check.due("alms", bell.village(1, 0), 1);
        check.due("far", bell.cell(0), 9);
        check.due("far", bell.cell(1), 0);
        check.due("light", bell.monk(0, 0), 40);
        check.due("light", bell.monk(1, 0), 0);
        check.due("his CELL", bell.monk(1, 1), 1);
        check.due("claim", bell.heir(0), 99);
        check.due("claim", bell.heir(1), 1);
        check.due("interest", bell.ahead(12, 1), 11998);
        OwedBell last = Check.told("owe 5;chest 7;rate 1;owe 600;chest 8;rate 10;");
        check.due("the last owe counts", last.told(0), 600);
        check.due("the last chest counts", last.told(1), 8);
        check.due("the last rate counts", last.ahead(12, 1), 660);
        OwedBell harvests = Check.told("harvest 2 50;harvest 0 9;harvest 2 4;");
        Check.work(harvests, "night;");
        check.due("harvest of NIGHT 0", harvests.told(1), 9);
        Check.work(harvests, "night;night;");
        check.due("the last harvest of 2 counts", harvests.told(1), 13);
        Check.work(harvests, "again 10 [night;];");
        check.due("harvest of NIGHT 12", harvests.told(1), 22);
        check.due("six villages, eight cells, eight monks, four heirs", Check.abbey(new OwedBell(),
                Check.times(6, "village 1;") + Check.times(8, "cell 1;") + Check.times(8, "monk 1;")
                + Check.times(4, "heir 1;")), 8);
        check.due("sixty clauses", Check.abbey(new OwedBell(), Check.times(60, "owe 1;") + " "), 0);
    }

    private static void abbeyFaults() {
        Object[][] faults = {
            {"owe 7", -9, 5}, {"owe 7  ", -9, 7}, {"owe", -9, 3}, {"owe ", -9, 4}, {"owe;", -9, 3}, {"owe  ;", -9, 5},
            {"owe -1;", -9, 4}, {"Owe 1;", -9, 0}, {";", -9, 0}, {"owe 1;;", -9, 6}, {"owe 1; ;", -9, 7},
            {"owe\t1;", -9, 3}, {"ow e 1;", -9, 0}, {"  owes 1;", -9, 2}, {"5;", -9, 0}, {"owe 1 2;", -9, 6},
            {"owe 1x", -9, 5}, {"owe 10000", -8, 4}, {"owe   10000;", -8, 6}, {"owe 99999999999999999999;", -8, 4},
            {"rate 21;", -8, 5}, {"chest 1000;", -8, 6}, {"harvest 12 1;", -8, 8}, {"harvest12;", -8, 7},
            {"harvest 1;", -9, 9}, {"harvest 11 100;", -8, 11}, {"harvest 12 100;", -8, 8}, {"harvest x 1;", -9, 8},
            {"village 0;", -8, 8}, {"village 21;", -8, 8}, {"cell 10;", -8, 5}, {"cell 0;monk 41;", -8, 12},
            {"heir 0;", -8, 5}, {"heir 100;", -8, 5}, {"owe 1;monk 1;cell 1;", -7, 6}, {"monk 99;", -7, 0},
            {"monk", -7, 0}, {"cell 1;monk 1;  monk 1;", -7, 16}, {"{", -9, 0}, {"owe 1;\u00ff", -9, 6},
            {"bwe 1;", -9, 0}, {"fate 1;", -9, 0}, {"whest 1;", -9, 0}, {"owez 1;", -9, 0}, {"ow 1;", -9, 0},
            {"heirs 1;", -9, 0}, {"owe`1;", -9, 3}, {"owe{1;", -9, 3}, {"owe 1:", -9, 5}, {"owe 1/;", -9, 5},
            {Check.times(7, "village 1;"), -7, 60}, {Check.times(9, "cell 1;"), -7, 56},
            {Check.times(8, "cell 1;") + Check.times(9, "monk 1;"), -7, 112}, {Check.times(5, "heir 1;"), -7, 28},
            {Check.times(61, "owe 1;"), -7, 360}, {Check.times(60, "owe 1;") + "x", -9, 360},
            {Check.times(60, "owe 1;") + "owe 10000;", -7, 360}, {Check.times(60, "owe 1;") + " 5", -9, 361},
            {Check.times(6, "village 1;") + "village 0;", -7, 60}, {Check.times(6, "village 1;") + "villages", -9, 60},
        };
        for (Object[] row : faults) {
            OwedBell bell = Check.told("owe 77;" + HOUSE);
            Check.work(bell, "night;");
            check.due("abbey: " + row[0], Check.abbey(bell, (String) row[0]), (Integer) row[1]);
            check.due("its place: " + row[0], bell.fault(), (Integer) row[2]);
            check.due("OWED stays: " + row[0], bell.told(0), 77);
            check.due("NIGHT stays: " + row[0], bell.told(2), 1);
            check.due("MONKS stay: " + row[0], bell.many(2), 2);
            check.due("WORKS stay: " + row[0], bell.kept(2), 1);
        }
        check.due("the empty text", Check.abbey(new OwedBell(), ""), 0);
        check.due("blanks alone", Check.abbey(new OwedBell(), "   "), 0);
        check.due("zeros ahead of a number", Check.abbey(new OwedBell(), "owe 00000000000000000000012;"), 0);
    }

    private static void whatAnAbbeyTakesAway() {
        OwedBell bell = Check.told(HOUSE, "5");
        Check.book(bell, "0 5;");
        Check.work(bell, "wax;wax;night;receipt 4;swap 0 1;");
        bell.image();
        check.due("refused", bell.told(11), 1);
        check.due("abbey again", Check.abbey(bell, HOUSE), 2);
        int[] told = {100, 0, 0, 0, 0, 0, 0, 0, 0, 0, 0, 0, 0};
        for (int i = 0; i < told.length; i++) {
            check.due("anew: told " + i, bell.told(i), told[i]);
        }
        check.due("the LAW without a text", bell.strokes(), 10);
        check.due("no IMAGES", bell.kept(0), 0);
        check.due("nothing to undo", bell.kept(2), 0);
        check.due("MONKS in their CELLS", bell.monk(0, 1), 0);
        check.due("MONKS have not woken", bell.monk(0, 3), 0);
        check.due("VILLAGES may give", bell.village(0, 1), 0);
        check.due("all pairs fit", bell.fits(0), 4200);
        Check.abbey(bell, HOUSE + "owe 9;chest 99;harvest 0 7;harvest 11 8;");
        Check.work(bell, "receipt 9;again 9 [night;];");
        Check.work(bell, "pay 5;alms 0;wax;receipt 4;");
        Check.abbey(bell, HOUSE + "chest 4;");
        check.due("nothing is paid", bell.told(4), 0);
        check.due("no wax", bell.told(5), 0);
        check.due("nothing hangs", bell.told(6), 0);
        check.due("for no NIGHTS", bell.told(7), 0);
        check.due("VILLAGES may give", bell.village(0, 1), 0);
        check.due("no QUIET", bell.told(3), 0);
        check.due("the CHEST", bell.told(1), 4);
        Check.work(bell, "receipt 3;again 7 [night;];");
        check.due("came down", bell.told(12), 3);
        Check.abbey(bell, HOUSE);
        check.due("came down no more", bell.told(12), 0);
        Check.work(bell, "again 24 [night;];");
        check.due("no harvest of an ABBEY before", bell.told(1), 0);
        Check.abbey(bell, "chest 9;");
        Check.law(bell, "asks+chest");
        Check.book(bell, "0 9;");
        check.due("the CHEST of 9", bell.fits(0), 21);
        Check.abbey(bell, "");
        check.due("no BOOK", bell.fits(0), 4200);
    }

    /** asks 7, paid 11, night 13, quiet 17, wax 1, storm 0, chest 23 by a LAW. */
    private static int would(String law) {
        OwedBell bell = new OwedBell();
        check.due("law: " + law, Check.law(bell, law), 1);
        check.due("no FAULT: " + law, bell.fault(), -1);
        return bell.would(7, 11, 13, 17, 1, 0, 23);
    }

    private static void laws() {
        check.due("the most values that wait", would(Check.times(6, "1+1*most[0,") + "1+1*1" + Check.times(6, "]")), 8);
        Object[][] laws = {
            {"asks", 7}, {"paid", 11}, {"night", 13}, {"quiet", 17}, {"wax", 1}, {"storm", 0}, {"chest", 23},
            {"999", 999}, {" 5 ", 5}, {"2+3*4", 14}, {"(2+3)*4", 20}, {"20-5-3", 12}, {"20-(5-3)", 18},
            {"100/7/2", 7}, {"100/(7/2)", 33}, {"100%7%2", 0}, {"17%5*3", 6}, {"2*17%5", 4}, {"3/0", 0}, {"3%0", 0},
            {"(0-7)/2+10", 7}, {"(0-7)%4+10", 7}, {"7%(0-4)", 3}, {"3-9", 0}, {"999+1", 999}, {"asks*paid*night", 999},
            {"least[asks,paid]", 7}, {"most [ asks , paid ]", 11}, {"least[3-9,2]+10", 4}, {"most[least[5,6],4]", 5},
            {"((((((1))))))", 1}, {"(1)+(1)+(1)+(1)+(1)+(1)+(1)+(1)", 8}, {"asks-paid+night", 9},
            {"least[1,(2)]+least[1,2]+most[(((((3))))),4]", 6}, {"0000000000000999", 999}, {"2 * 3", 6},
            // 999^4 and more wrap round 32 bits
            {"999*999*999/999", 998001}, {"999*999*999*999%997", wrapped(999, 4) % 997},
            {"0-999*999*999*4", clamp(-wrapped(999, 3) * 4)}, {"999*999*3*999", clamp(999 * 999 * 3 * 999)},
        };
        for (Object[] row : laws) {
            check.due("would by " + row[0], would((String) row[0]), clamp((Integer) row[1]));
        }
        // what is least of 32 bits, by -1, wraps round to itself
        String least = "0-2*(512*512)*(512*8)";
        check.due("least by -1", would("(" + least + ")/(0-1)"), 0);
        check.due("least by -1 leaves", would("(" + least + ")%(0-1)+5"), 5);
        check.due("least less 1 is most", would(least + "-1"), 999);
        OwedBell bell = Check.told("owe 50;", "asks");
        check.due("the LAW counts at once", bell.strokes(), 50);
        Check.law(bell, "asks-49");
        check.due("the latest LAW counts", bell.strokes(), 1);
        check.due("the longest LAW", Check.law(bell, "1" + Check.times(74, "+1") + " "), 1);
        check.due("75 ones", bell.strokes(), 75);
    }

    private static int wrapped(int base, int times) {
        int product = 1;
        for (int i = 0; i < times; i++) {
            product *= base;
        }
        return product;
    }

    private static int clamp(int n) {
        return n < 0 ? 0 : n > 999 ? 999 : n;
    }

    private static void lawFaults() {
        Object[][] faults = {
            {"", -9, 0}, {"  ", -9, 2}, {"ask", -9, 0}, {"askss", -9, 0}, {"asks5", -9, 4}, {"5asks", -9, 1},
            {"5 5", -9, 2}, {"1000", -8, 0}, {"1+1000", -8, 2}, {"1+", -9, 2}, {"1+ ", -9, 3}, {"+1", -9, 0},
            {"1++1", -9, 2}, {"()", -9, 1}, {"(1", -9, 2}, {"(1]", -9, 2}, {"1)", -9, 1}, {"least", -9, 5},
            {"least(1,2)", -9, 5}, {"least [1]", -9, 8}, {"least[1,2", -9, 9}, {"least[1,2)", -9, 9},
            {"most[,1]", -9, 5}, {"most[1,]", -9, 7}, {"1;", -9, 1}, {"A", -9, 0}, {"\u0000", -9, 0}, {"-1", -9, 0},
            {"(((((((1)))))))", -7, 6}, {"((((((least[1,2]))))))", -7, 6}, {"((((((most", -7, 6},
            {"((((((less", -9, 6}, {"least[1,least[1,least[1,least[1,least[1,least[1,(1)]]]]]]", -7, 48},
            {"most[most[most[most[most[most[(1),1],1],1],1],1],1]", -7, 30}, {"(((((least[1,(((", -7, 13},
            {"(((((least[(", -7, 11}, {"bsks", -9, 0}, {"leastz[1,2]", -9, 0}, {"feast[1,2]", -9, 0}, {"1:2", -9, 1},
            {"((((((1)))))))", -9, 13}, {"asks % 1000000000000", -8, 7}, {"1 +\t1", -9, 3},
        };
        for (Object[] row : faults) {
            OwedBell bell = Check.told("owe 8;", "asks+1");
            check.due("law: " + row[0], Check.law(bell, (String) row[0]), (Integer) row[1]);
            check.due("its place: " + row[0], bell.fault(), (Integer) row[2]);
            check.due("the LAW stays: " + row[0], bell.strokes(), 9);
            check.due("the TAPE is empty: " + row[0], bell.kept(1), 0);
        }
    }

    private static void works() {
        Object[][] works = {
            // text, STEPS done, REFUSED
            {"", 0, 0}, {"  ", 0, 0}, {"night;", 1, 0}, {" night ; night;", 2, 0}, {"again 0 [night;];", 0, 0},
            {"again 30 [night;];", 30, 0}, {"again 3 [];", 0, 0}, {"again2[again3[wax;night;];];", 12, 0},
            {"wax;wax;", 1, 1}, {"pay 1;", 0, 1}, {"alms 0;alms 0;pay 3;pay 1;", 2, 2}, {"swap 0 1;swap 1 1;", 1, 1},
            {"receipt 999;receipt 1;", 1, 1},
            // 200 STEPS are begun at most: the again itself, and 199 in it
            {"again 30 [wax;wax;wax;wax;wax;wax;wax;];", 1, 198}, {"again 30 [night;again 5 [];again 0 [wax;];];", 30, 0},
            {"again 30 [again 30 [night;];];wax;", 192, 0}, {"again 30 [again 30 [];];again 30[again 30[again 30[];];];night;", 0, 0},
        };
        for (Object[] row : works) {
            OwedBell bell = Check.told(HOUSE);
            check.due("work: " + row[0], Check.work(bell, (String) row[0]), (Integer) row[1]);
            check.due("REFUSED: " + row[0], bell.told(11), (Integer) row[2]);
            check.due("to undo: " + row[0], bell.kept(2), 1);
            check.due("no FAULT: " + row[0], bell.fault(), -1);
        }
        check.due("the longest WORK", Check.work(Check.told(HOUSE), Check.times(25, "night;")), 25);
        OwedBell bell = Check.told(HOUSE);
        for (int i = 1; i <= 16; i++) {
            check.due("WORK " + i, Check.work(bell, "wax;"), i == 1 ? 1 : 0);
        }
        check.due("a FAULT ahead", Check.law(bell, "x"), -9);
        check.due("a 17th WORK, a FAULT in it", Check.work(bell, "x"), -20);
        check.due("there is no FAULT", bell.fault(), -1);
        check.due("the TAPE is empty", bell.kept(1), 0);
        check.due("REFUSED is left", bell.told(11), 1);
        check.due("still 16", bell.kept(2), 16);
        check.bad("behind the exception", () -> bell.work(1));
        check.due("undone", bell.undo(), 15);
        check.due("a 16th again", Check.work(bell, "night;"), 1);
    }

    private static void workFaults() {
        Object[][] faults = {
            {"night", -9, 5}, {"nights;", -9, 0}, {"night;;", -9, 6}, {"pay;", -9, 3}, {"nay 1;", -9, 0}, {"fax;", -9, 0}, {"payz 1;", -9, 0},
            {"light;", -9, 0}, {"waxes;", -9, 0}, {"pay/1;", -9, 3}, {"pay:1;", -9, 3}, {"pay 0;", -8, 4},
            {"pay 1000;", -8, 4}, {"alms 1;", -8, 5}, {"receipt 0;", -8, 8}, {"receipt 1000;", -8, 8},
            {"swap 2 0;", -8, 5}, {"swap 0 2;", -8, 7}, {"swap 0;", -9, 6}, {"again 31 [];", -8, 6}, {"again [];", -9, 6},
            {"again 1 night;", -9, 8}, {"again 1 [night];", -9, 14}, {"again 1 [night;]", -9, 16},
            {"again 1 [night;", -9, 15}, {"];", -9, 0}, {"night;]", -9, 6}, {"wax 1;", -9, 4}, {"Wax;", -9, 0},
            {Check.times(6, "again 1[") + "wax;" + Check.times(5, "];") + "]", -9, 63},
            {Check.times(7, "again 1["), -7, 48}, {Check.times(6, "again 1[") + "again", -7, 48},
            {Check.times(6, "again 1[") + "agains", -9, 48}, {"night;pay 5000;", -8, 10},
            {Check.times(6, "again 1[") + "again 99[];", -7, 48},
        };
        for (Object[] row : faults) {
            OwedBell bell = Check.told(HOUSE);
            Check.work(bell, "wax;wax;");
            check.due("work: " + row[0], Check.work(bell, (String) row[0]), (Integer) row[1]);
            check.due("its place: " + row[0], bell.fault(), (Integer) row[2]);
            check.due("none is done: " + row[0], bell.told(2), 0);
            check.due("nothing more to undo: " + row[0], bell.kept(2), 1);
            check.due("REFUSED is left: " + row[0], bell.told(11), 1);
            check.due("the TAPE is empty: " + row[0], bell.kept(1), 0);
        }
        check.due("six agains", Check.work(new OwedBell(),
                Check.times(6, "again 2[") + "night;" + Check.times(6, "];")), 64);
        check.due("no VILLAGE", Check.work(new OwedBell(), "alms 0;"), -8);
        check.due("no MONK", Check.work(new OwedBell(), "swap 0 0;"), -8);
    }

    private static void books() {
        OwedBell bell = Check.told("owe 50;", "asks");
        check.due("two lines", Check.book(bell, " 0 50 ;59 0;"), 2);
        check.due("lines", bell.told(10), 2);
        check.due("eight lines", Check.book(bell, "0 1;1 1;2 1;3 1;4 1;5 1;6 1;59 999;  "), 8);
        check.due("lines", bell.told(10), 8);
        check.due("the longest BOOK", Check.book(bell, "0 1;" + Check.times(96, " ")), 1);
        check.due("no lines", Check.book(bell, ""), 0);
        check.due("lines", bell.told(10), 0);
    }

    private static void bookFaults() {
        String eight = "0 1;1 1;2 1;3 1;4 1;5 1;6 1;7 1;";
        Object[][] faults = {
            {"60 1;", -8, 0}, {"0 1000;", -8, 2}, {"0 1;0 1;", -8, 4}, {"0 1;5 2; 00 1;", -8, 9}, {"0 1", -9, 3},
            {"0;", -9, 1}, {"0", -9, 1}, {"x", -9, 0}, {"0 1;;", -9, 4}, {"0 -1;", -9, 2}, {"0 1 2;", -9, 4},
            {eight + "8 1;", -7, 32}, {eight + " 8", -7, 33}, {eight + "7 1;", -8, 32}, {eight + "60 1;", -8, 32},
            {eight + "x", -9, 32}, {eight + "8 1000;", -7, 32}, {"5 1;5 1000;", -8, 4},
        };
        for (Object[] row : faults) {
            OwedBell bell = Check.told("owe 50;");
            Check.book(bell, "3 5;");
            check.due("book: " + row[0], Check.book(bell, (String) row[0]), (Integer) row[1]);
            check.due("its place: " + row[0], bell.fault(), (Integer) row[2]);
            check.due("the BOOK stays: " + row[0], bell.told(10), 1);
            check.due("the TAPE is empty: " + row[0], bell.kept(1), 0);
        }
    }

    private static void textsEndAtTheirLength() {
        OwedBell bell = new OwedBell();
        Check.feed(bell, "owe 12;rate 5;");
        check.due("within a number", bell.abbey(5), -9);
        check.due("at the length", bell.fault(), 5);
        Check.feed(bell, "1+23");
        check.due("within a number", bell.law(3), 1);
        check.due("the LAW 1+2", bell.strokes(), 3);
        Check.feed(bell, "asks");
        check.due("within a word", bell.law(3), -9);
        check.due("at its first byte", bell.fault(), 0);
        Check.feed(bell, "night;night;night");
        check.due("ahead of the third", bell.work(12), 2);
        Check.feed(bell, "0 7;1 7;");
        check.due("ahead of the second", bell.book(4), 1);
        Check.feed(bell, "0 7;");
        check.due("ahead of ;", bell.book(3), -9);
        check.due("at the length", bell.fault(), 3);
        Check.feed(bell, "5  ");
        check.due("zeros behind it are not read", bell.law(2), 1);
    }

    private static void faultIsOfTheLatestText() {
        OwedBell bell = new OwedBell();
        Check.abbey(bell, "owe x;");
        check.due("fault", bell.fault(), 4);
        check.bad("no text", () -> bell.law(7));
        check.due("an exception leaves it", bell.fault(), 4);
        bell.image();
        bell.restore();
        bell.undo();
        check.due("restore and undo leave it", bell.fault(), 4);
        Check.law(bell, "5");
        check.due("no FAULT", bell.fault(), -1);
    }
}
