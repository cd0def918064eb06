/** Boundary cases of promises 4 to 7: LAW, WORK and BOOK as texts, their FAULTS. */
public final class EdgesOfTextsTest {
    private static Edge edge;

    public static void main(String[] args) throws Exception {
        edge = new Edge("EdgesOfTextsTest");
        lawLength();
        lawStrokes();
        lawWords();
        lawValues();
        lawFaults();
        openOnes();
        workLength();
        workNumbers();
        workFaults();
        stepsBegun();
        sixteenWorks();
        bookLength();
        bookLines();
        faultPlaces();
        edge.end(4, 7);
    }

    // ---- promise 4 ----

    private static void lawLength() {
        edge.holds(4, "Likewise the LAW (n to 150): 1.");
        edge.textLength("law", (b, a) -> b.law(a[0]), 150);
        edge.holds(4, "A LAW is a text of up to 150 bytes");
        OwedBell bell = Edge.full();
        String undone = Edge.unwind(Edge.full());
        edge.due("149 bytes", Check.law(bell, "1" + Check.times(74, "+1")), 1);
        edge.due("75", bell.strokes(), 75);
        edge.due("150 bytes", Check.law(bell, "11" + Check.times(74, "+1")), 1);
        edge.due("85", bell.strokes(), 85);
        edge.due("150 bytes, blanks", Check.law(bell, Check.times(149, " ") + "7"), 1);
        edge.due("7", bell.strokes(), 7);
        Check.feed(bell, "8" + Check.times(150, " "));
        edge.refused("151 bytes", (b, a) -> b.law(151), bell, new int[0], Edge.BAD);
        edge.due("the LAW stays", bell.strokes(), 7);
        edge.due("the TAPE stays", bell.kept(1), 160);
        edge.due("150 of them", bell.law(150), 1);
        edge.due("8", bell.strokes(), 8);
        edge.due("the TAPE is empty", bell.kept(1), 0);
        edge.due("the BOOK stays", bell.told(10), 2);
        edge.same("what can be undone stays", Edge.unwind(bell), undone);
    }

    private static void strokes(String law, int due) {
        OwedBell bell = Edge.full();
        edge.due("law \"" + law + "\"", Check.law(bell, law), 1);
        edge.due("strokes by \"" + law + "\"", bell.would(0, 0, 0, 0, 0, 0, 0), due);
    }

    private static void lawStrokes() {
        edge.holds(4, "E, at the end nothing more; without: asks / 10.");
        int[][] tens = {{0, 0}, {9, 0}, {10, 1}, {19, 1}, {20, 2}, {9999, 999}};
        for (int[] row : tens) {
            OwedBell bell = Check.told("owe " + row[0] + ";");
            edge.due("of " + row[0], bell.strokes(), row[1]);
            edge.due("of so many asks", bell.would(row[0], 9, 9, 9, 1, 1, 9), row[1]);
        }
        edge.due("99,999 by 10 are too many", new OwedBell().would(99999, 0, 0, 0, 0, 0, 0), 999);
        edge.holds(4, "what comes out, 0 at least, 999 at most.");
        strokes("0-2", 0);
        strokes("0-1", 0);
        strokes("0", 0);
        strokes("1", 1);
        strokes("998", 998);
        strokes("999", 999);
        strokes("999+1", 999);
        strokes("999*999", 999);
        edge.holds(4, "U: N (0 to 999)");
        strokes("000000000000000000000999", 999);
        strokes("0000000000", 0);
        edge.lawFault("1000", Edge.NUMBER, 0);
        edge.lawFault("1 + 1000", Edge.NUMBER, 4);
        edge.lawFault("4294967296", Edge.NUMBER, 0);
        edge.lawFault("18446744073709551617", Edge.NUMBER, 0);
    }

    private static void lawWords() {
        edge.holds(4, "\"asks\" (what is owed less receipts that hang, 0 at least)");
        for (int n = 29; n <= 31; n++) {
            OwedBell bell = Check.told("owe 30;", "asks+5");
            Check.work(bell, "receipt " + n + ";");
            edge.due("30 less " + n, bell.strokes(), Math.max(0, 30 - n) + 5);
        }
        edge.holds(4, "\"paid\" (crowns paid since the latest NIGHT)");
        OwedBell paid = Check.told("owe 3000;chest 999;" + Check.harvests(99), "paid-998");
        Check.work(paid, "again 12[night;];pay 998;");
        edge.due("998", paid.strokes(), 0);
        Check.work(paid, "pay 1;");
        edge.due("999", paid.strokes(), 1);
        Check.work(paid, "pay 1;pay 900;");
        edge.due("more than 999", paid.strokes(), 1900 - 998);
        edge.due("told", paid.told(4), 1900);
        Check.work(paid, "night;");
        edge.due("none since", paid.strokes(), 0);
        edge.holds(4, "\"night\" (its number)");
        OwedBell night = Check.told("", "night");
        for (int i = 0; i < 3; i++) {
            edge.due("NIGHT " + i, night.strokes(), i);
            Check.work(night, "night;");
        }
        edge.due("asked about 999", night.would(0, 0, 999, 0, 0, 0, 0), 999);
        edge.holds(4, "\"quiet\" (NIGHTS without strokes, by now, one behind the other)");
        OwedBell quiet = Check.told("", "quiet/3");
        int[] due = {0, 0, 0, 1, 0, 0, 0, 1, 0};
        for (int i = 0; i < due.length; i++) {
            edge.due("NIGHT " + i, quiet.strokes(), due[i]);
            edge.due("QUIET " + i, quiet.told(3), i % 4);
            Check.work(quiet, "night;");
        }
        edge.holds(4, "\"wax\", \"storm\" (1 or 0), \"chest\" (what is in it)");
        OwedBell rest = Check.told("chest 3;", "wax*100+storm*50+chest");
        edge.due("no wax, no storm", rest.strokes(), 3);
        Check.work(rest, "wax;");
        edge.due("wax", rest.strokes(), 103);
        Check.work(rest, "night;");
        edge.due("no wax", rest.strokes(), 3);
        edge.due("a storm", rest.would(0, 0, 0, 0, 0, 1, 3), 53);
        edge.due("storms in YEARS", rest.years(1, 2, 16, 0, 0, 1), 106);
        edge.lawFault("owed", Edge.CANNOT, 0);
        for (String word : "asks paid night quiet wax storm chest".split(" ")) {
            edge.lawFault(word + "z", Edge.CANNOT, 0);
            edge.lawFault("a" + word, Edge.CANNOT, 0);
            edge.lawFault(Edge.otherLetter(word, 0), Edge.CANNOT, 0);
            edge.lawFault(Edge.otherLetter(word, word.length() - 1), Edge.CANNOT, 0);
            edge.lawFault(word.substring(0, 2), Edge.CANNOT, 0);
            edge.lawFault(word.substring(1), Edge.CANNOT, 0);
            edge.lawFault(word + "5", Edge.CANNOT, word.length());
            edge.lawFault(word + " " + word, Edge.CANNOT, word.length() + 1);
            edge.lawFault(word.substring(0, 1).toUpperCase() + word.substring(1), Edge.CANNOT, 0);
        }
    }

    private static void lawValues() {
        String max = "(512*512*512*16-1)";
        String min = "(512*512*512*16)";
        edge.holds(4, "Values are whole numbers of 32 bits that wrap");
        strokes(max, 999);
        strokes(min, 0);
        strokes(max + "+1", 0);
        strokes(max + "+1-1", 999);
        strokes(min + "-1", 999);
        strokes("0-" + min, 0);
        strokes("0-" + min + "-1", 999);
        strokes(max + "*2", 0);
        strokes(max + "*2+9", 7);
        strokes(min + "*2+7", 7);
        strokes("512*512*512*32+7", 7);
        strokes("512*512*512*31/(512*512*512)+20", 19);
        strokes(max + "/(512*512*64)", 127);
        strokes("least[" + max + "," + min + "]+" + max + "+6", 5);
        strokes("most[" + max + "," + min + "]-" + max + "+6", 6);
        edge.holds(4, "/ cuts, % leaves (with the sign of what is divided), by 0 both are 0.");
        String[] laws = {"7/2", "6/2", "5/2", "(0-7)/2+9", "7/(0-2)+9", "(0-7)/(0-2)", "1/2", "(0-1)/2+9", "7%2", "6%2",
            "(0-7)%2+9", "7%(0-2)", "(0-7)%(0-2)+9", "5%7", "(0-5)%7+9", "9/0", "9%0", "0/0", "0%0", "(0-9)/0", "(0-9)%0",
            "9/0+4", "4+9%0", min + "/(0-1)+9", min + "%(0-1)+9", min + "/1+" + max + "+9", min + "%10+9", max + "%10",
            min + "/0+9", "0/5", "0%5"};
        int[] due = {3, 3, 2, 6, 6, 3, 0, 9, 1, 0, 8, 1, 8, 5, 4, 0, 0, 0, 0, 0, 0, 4, 4, 0, 9, 8, 1, 7, 9, 0, 0};
        for (int i = 0; i < laws.length; i++) {
            strokes(laws[i], due[i]);
        }
        edge.holds(4, "E: T { + or - T }. T: U { * or / or % U }.");
        strokes("9-4-3", 2);
        strokes("9-4+3", 8);
        strokes("2+3*4", 14);
        strokes("2*3+4", 10);
        strokes("100/10/5", 2);
        strokes("100/10*5", 50);
        strokes("100%7*3", 6);
        strokes("3*100%7", 6);
        strokes("9-(4-3)", 8);
        edge.holds(4, "\"least\" \"[\" E \",\" E \"]\", \"most\" \"[\" E \",\" E \"]\", or \"(\" E \")\"");
        strokes("least[4,5]", 4);
        strokes("least[5,5]", 5);
        strokes("least[6,5]", 5);
        strokes("most[4,5]", 5);
        strokes("most[5,5]", 5);
        strokes("most[6,5]", 6);
        strokes("least[0-4,3]+9", 5);
        strokes("most[0-4,0-3]+9", 6);
        strokes("most[1+1,1*1]*least[2+2,3]", 6);
    }

    private static void lawFaults() {
        edge.holds(4, "1 what can't stand there (at the length, if the text ends too early)");
        String law = " most [ 12 , ( asks ) ] ";
        int[] places = {0, 1, 1, 1, 1, 5, 6, 7, 8, 9, 10, 11, 12, 13, 14, 15, 15, 15, 15, 19, 20, 21, 22};
        for (int n = 0; n < places.length; n++) {
            edge.lawFault(law.substring(0, n), Edge.CANNOT, places[n]);
        }
        strokes(law.substring(0, 23), 12);
        strokes(law, 12);
        Object[][] faults = {{"  ", 2}, {"5 5", 2}, {"5;", 1}, {"5)", 1}, {"5]", 1}, {"5,", 1}, {"()", 1},
            {"(5", 2}, {"(5]", 2}, {"(5,6)", 2}, {"least", 5}, {"least 5", 6}, {"least(5,6)", 5}, {"least[]", 6},
            {"least[5]", 7}, {"least[5;6]", 7}, {"least[5,]", 8}, {"least[5,6", 9}, {"least[5,6)", 9}, {"least[5,6,7]", 9},
            {"least[5,6]]", 10}, {"[5,6]", 0}, {"+5", 0}, {"-5", 0}, {"5+", 2}, {"5+-5", 2}, {"5**5", 2}, {"5+ ", 3},
            {"*5", 0}, {"5//5", 2}, {"5%", 2}, {"5^5", 1}, {"5 min 5", 2}, {"pay", 0}, {"5.5", 1}};
        for (Object[] row : faults) {
            edge.lawFault((String) row[0], Edge.CANNOT, (Integer) row[1]);
        }
        for (int i = 0; i < Edge.SIGNS_AROUND.length(); i++) {
            char sign = Edge.SIGNS_AROUND.charAt(i);
            edge.lawFault(sign + "asks", Edge.CANNOT, 0);
            edge.lawFault("asks" + sign, Edge.CANNOT, sign == '/' ? 5 : 4);
            edge.lawFault("4 " + sign + " asks %", Edge.CANNOT, sign == '/' ? 10 : 2);
        }
        edge.holds(4, "FAULTS, the first from the left, at its first byte");
        edge.lawFault("1000+owed", Edge.NUMBER, 0);
        edge.lawFault("owed+1000", Edge.CANNOT, 0);
        edge.lawFault("5+1000+", Edge.NUMBER, 2);
        edge.lawFault("(1000", Edge.NUMBER, 1);
        edge.lawFault("least[1000]", Edge.NUMBER, 6);
        edge.lawFault("least[5,1000)", Edge.NUMBER, 8);
    }

    private static void openOnes() {
        edge.holds(4, "or a 7th of ( least most again that is open at one time");
        String[] opens = {"(", "least[1,", "most[1,", "least[", "most["};
        String[] closes = {")", "]", "]", ",9]", ",0]"};
        for (int i = 0; i < opens.length; i++) {
            for (int n = 5; n <= 6; n++) {
                edge.due(n + " of " + opens[i], Check.law(new OwedBell(),
                        Check.times(n, opens[i]) + "1" + Check.times(n, closes[i])), 1);
            }
            for (int k = 0; k < opens.length; k++) {
                String six = Check.times(6, opens[k]);
                edge.lawFault(six + opens[i] + "1", Edge.MANY, six.length());
                edge.lawFault(six + "1 + " + opens[i] + "1", Edge.MANY, six.length() + 4);
                edge.lawFault(six + " " + opens[i].charAt(0) + opens[i].substring(1).replaceAll("\\[.*", ""), Edge.MANY, six.length() + 1);
            }
        }
        String six = Check.times(6, "(") + "1" + Check.times(6, ")");
        strokes(six + "+" + six + "*" + six, 2);
        strokes("least[(((((7))))),(((((8)))))]", 7);
        edge.lawFault("least[((((((7)))))),8]", Edge.MANY, 11);
        edge.lawFault("least[8,((((((7))))))]", Edge.MANY, 13);
        strokes(Check.times(5, "(") + "least[1,2]+most[3,4]+(5)" + Check.times(5, ")"), 10);
        edge.lawFault(six + "+(" + six + ")", Edge.MANY, 20);
        edge.holds(4, "of one the least.");
        edge.lawFault(Check.times(6, "(") + "leasts[1,2]", Edge.CANNOT, 6);
        edge.lawFault(Check.times(6, "(") + "[1,2]", Edge.CANNOT, 6);
        edge.lawFault(Check.times(6, "(") + "1000", Edge.NUMBER, 6);
        edge.lawFault(Check.times(6, "("), Edge.CANNOT, 6);

        edge.holds(5, "or a 7th of ( least most again that is open at one time");
        for (int n = 5; n <= 6; n++) {
            edge.due(n + " agains", Check.work(new OwedBell(), Check.times(n, "again 1[") + "wax;" + Check.times(n, "];")), 1);
        }
        edge.workFault(Check.times(7, "again 1[") + "wax;" + Check.times(7, "];"), Edge.MANY, 48);
        edge.workFault(Check.times(6, "again 1[") + "wax; again", Edge.MANY, 53);
        edge.workFault(Check.times(6, "again 1[") + "again 31[", Edge.MANY, 48);
        edge.workFault(Check.times(6, "again 1[") + "agains 1[", Edge.CANNOT, 48);
        edge.due("closed ones are not open", Check.work(new OwedBell(), Check.times(5, "again 1[") + "again 1[];again 1[];"
                + "again 1[wax;];" + Check.times(5, "];") + "again 1[again 1[night;];];"), 2);
    }

    // ---- promise 5 ----

    private static void workLength() {
        edge.holds(5, "Likewise WORK (n to 150), which is done");
        edge.textLength("work", (b, a) -> b.work(a[0]), 150);
        edge.holds(5, "WORK is a text of up to 150 bytes: { STEP \";\" }.");
        OwedBell bell = new OwedBell();
        edge.due("149 bytes", Check.work(bell, " wax;" + Check.times(24, "night;")), 25);
        edge.due("NIGHT", bell.told(2), 24);
        edge.due("150 bytes", Check.work(bell, Check.times(25, "night;")), 25);
        edge.due("NIGHT", bell.told(2), 49);
        edge.due("150 blanks", Check.work(bell, Check.times(150, " ")), 0);
        Check.feed(bell, Check.times(25, "night;") + " ");
        edge.refused("151 bytes", (b, a) -> b.work(151), bell, new int[0], Edge.BAD);
        edge.due("none is done", bell.told(2), 49);
        edge.due("WORKS", bell.kept(2), 3);
        edge.due("the TAPE stays", bell.kept(1), 160);
        edge.due("150 of them", bell.work(150), 25);
        edge.due("the TAPE is empty", bell.kept(1), 0);
        edge.holds(5, "how many STEPS were done (agains not counted, nor REFUSED ones)");
        edge.due("no STEPS", bell.work(0), 0);
        edge.due("an again of none", Check.work(bell, "again 0[night;];"), 0);
        edge.due("an empty again", Check.work(bell, "again 30[];"), 0);
        edge.due("one REFUSED", Check.work(bell, "pay 1;"), 0);
        edge.due("one done", Check.work(bell, "again 1[wax;];"), 1);
        edge.due("two done, two REFUSED", Check.work(bell, "wax;night;again 2[wax;];pay 1;"), 2);
        edge.due("REFUSED", bell.told(11), 3);
    }

    private static void step(String text, int least, int most) {
        for (int n : new int[] {least, least + 1, most - 1, most}) {
            if (n >= least && n <= most) {
                edge.isTrue(text + n, Check.work(Edge.full(), text + n + rest(text)) >= 0);
                edge.isTrue(text + "000000000000" + n, Check.work(Edge.full(), text + "000000000000" + n + rest(text)) >= 0);
            }
        }
        if (least > 0) {
            edge.workFault(text + (least - 1) + rest(text), Edge.NUMBER, text.length());
        }
        edge.workFault(text + (most + 1) + rest(text), Edge.NUMBER, text.length());
        edge.workFault(text + "4294967297" + rest(text), Edge.NUMBER, text.length());
        edge.workFault(text + "18446744073709551617" + rest(text), Edge.NUMBER, text.length());
        edge.workFault(text + "-1" + rest(text), Edge.CANNOT, text.length());
        edge.workFault(text + rest(text), Edge.CANNOT, text.length());
        edge.workFault(text, Edge.CANNOT, text.length());
        edge.workFault(text + "  " + (most + 1), Edge.NUMBER, text.length() + 2);
    }

    private static String rest(String text) {
        return text.startsWith("again") ? "[];" : text.equals("swap ") ? " 0;" : ";";
    }

    private static void workNumbers() {
        edge.holds(5, "\"pay\" N (1 to 999)");
        step("pay ", 1, 999);
        edge.holds(5, "\"alms\" V");
        step("alms ", 0, 1);
        edge.holds(5, "\"receipt\" N (1 to 999)");
        step("receipt ", 1, 999);
        edge.holds(5, "\"swap\" A B (MONKS)");
        edge.workFault("swap 2 0;", Edge.NUMBER, 5);
        edge.workFault("swap 0 2;", Edge.NUMBER, 7);
        step("swap 0 ", 0, 1);
        edge.workFault("swap 2 2;", Edge.NUMBER, 5);
        edge.workFault("swap 2;", Edge.NUMBER, 5);
        edge.workFault("swap 1;", Edge.CANNOT, 6);
        edge.workFault("swap 01;", Edge.CANNOT, 7);
        edge.holds(5, "\"night\", or \"again\" N \"[\" { STEP \";\" } \"]\" (N 0 to 30)");
        step("again ", 0, 30);
        for (int n : new int[] {0, 1, 29, 30}) {
            edge.due("again " + n, Check.work(new OwedBell(), "again " + n + "[night;];"), n);
        }
        edge.holds(5, "2 a number that is none such");
        OwedBell none = new OwedBell();
        edge.due("alms without VILLAGES", Check.work(none, "alms 0;"), Edge.NUMBER - 10);
        edge.due("swap without MONKS", Check.work(none, "swap 0 0;"), Edge.NUMBER - 10);
        edge.due("place", none.fault(), 5);
        OwedBell most = Check.told(Check.times(6, "village 1;") + Check.times(8, "cell 0;") + Check.times(8, "monk 0;"));
        edge.due("the last ones", Check.work(most, "alms 5;swap 7 6;swap 0 7;"), 3);
        edge.due("one behind the last", Check.work(most, "alms 6;"), Edge.NUMBER - 10);
        edge.due("one behind the last", Check.work(most, "swap 8 0;"), Edge.NUMBER - 10);
        edge.due("one behind the last", Check.work(most, "swap 0 8;"), Edge.NUMBER - 10);
    }

    private static void workFaults() {
        edge.holds(5, "or the FAULT less 10 (none is)");
        String text = " again  3 [ pay 12 ; wax ; ] ;";
        int[] places = {-1, -1, 1, 1, 1, 1, 6, 7, 8, 9, 10, 11, 12, 12, 12, 15, 16, 17, 18, 19, 20, 21, 21, 21, 24, 25, 26, 27, 28, 29};
        for (int n = 0; n < places.length; n++) {
            if (places[n] >= 0) {
                edge.workFault(text.substring(0, n), Edge.CANNOT, places[n]);
            }
        }
        edge.due("the whole", Check.work(new OwedBell(), text), 1);
        Object[][] faults = {{"night", 5}, {"night;;", 6}, {";", 0}, {"5;", 0}, {"night 5;", 6}, {"wax 5;", 4}, {"nights;", 0},
            {"owe 5;", 0}, {"];", 0}, {"night;];", 6}, {"again 3[night];", 13}, {"again 3[night;]", 15}, {"again 3[night;];];", 16},
            {"again 3 night;", 8}, {"again[night;];", 5}, {"again 3[[night;];];", 8}, {"again 3(night;);", 7}, {"pay;", 3},
            {"pay 1 2;", 6}, {"swap 0,1;", 6}, {"Night;", 0}, {"night,", 5}};
        for (Object[] row : faults) {
            edge.workFault((String) row[0], Edge.CANNOT, (Integer) row[1]);
            edge.workFault("night;wax;" + row[0], Edge.CANNOT, (Integer) row[1] + 10);
        }
        for (String word : "pay alms wax receipt swap night again".split(" ")) {
            edge.workFault(word + "z 1;", Edge.CANNOT, 0);
            edge.workFault("a" + word + " 1;", Edge.CANNOT, 0);
            edge.workFault(Edge.otherLetter(word, 0) + " 1;", Edge.CANNOT, 0);
            edge.workFault(Edge.otherLetter(word, word.length() - 1) + " 1;", Edge.CANNOT, 0);
            edge.workFault(word.substring(1) + " 1;", Edge.CANNOT, 0);
            edge.workFault(word.substring(0, word.length() - 1) + " 1;", Edge.CANNOT, 0);
        }
        edge.holds(5, "FAULTS, the first from the left, at its first byte");
        edge.workFault("pay 1000;nights;", Edge.NUMBER, 4);
        edge.workFault("nights;pay 1000;", Edge.CANNOT, 0);
        edge.workFault("again 31 night;", Edge.NUMBER, 6);
        edge.workFault("again 1[again 31[pay 0;];];", Edge.NUMBER, 14);
    }

    private static void begun(String text, int done, int refused) {
        OwedBell bell = Check.told("owe 9;chest 9;village 1;cell 0;cell 0;monk 0;monk 0;");
        edge.due("done by " + text, Check.work(bell, text), done);
        edge.due("REFUSED by " + text, bell.told(11), refused);
        edge.due("it can be undone: " + text, bell.undo(), 0);
        edge.due("NIGHT, undone: " + text, bell.told(2), 0);
    }

    private static void stepsBegun() {
        edge.holds(5, "200 STEPS at most are begun by one WORK (an again, too, each time it is come to; REFUSED ones, too), "
                + "what would come behind is left out.");
        begun(Check.times(6, "again 30[night;];"), 180, 0);
        // 14 are begun by an again of 13
        String most = Check.times(6, "again 30[night;];");
        begun(most + "again 11[night;];", 191, 0);
        begun(most + "again 12[night;];", 192, 0);
        begun(most + "again 13[night;];", 193, 0);
        begun(most + "again 14[night;];", 193, 0);
        begun(most + "again 12[night;];wax;", 193, 0);
        begun(most + "again 12[night;];wax;wax;", 193, 0);
        begun(most + "again 11[night;];wax;wax;wax;", 192, 1);
        begun(most + "again 13[night;];wax;", 193, 0);
        begun(most + "again 12[night;];pay 10;wax;", 192, 1);
        begun(most + "again 11[night;];pay 10;wax;", 192, 1);
        // the 200th is an again: nothing in it is begun
        begun(most + "again 12[night;];again 9[wax;];", 192, 0);
        begun(most + "again 11[night;];again 9[wax;];", 192, 0);
        // an again of none, and an empty one, is begun each time: six in each of 30, then 18 or 19
        String six = "again 30[again 0[];again 9[];again 0[];again 9[];again 0[wax;];again 0[];];";
        begun(six + "again 17[again 0[];];night;", 1, 0);
        begun(six + "again 18[again 0[];];night;", 0, 0);
        begun(six + "again 16[again 9[];];night;night;", 2, 0);
        begun(six + "again 17[again 9[];];night;night;", 1, 0);
        begun("again 30[pay 10;pay 10;pay 10;pay 10;pay 10;pay 10;];night;again 20[pay 10;];", 1, 197);
        begun("again 30[swap 0 0;swap 0 0;swap 0 0;swap 0 0;swap 0 0;swap 0 0;];again 17[pay 10;];night;", 1, 197);
        begun("again 30[swap 0 0;swap 0 0;swap 0 0;swap 0 0;swap 0 0;swap 0 0;];again 18[pay 10;];night;", 0, 198);
        begun("again 30[again 30[again 30[again 30[again 30[again 30[night;];];];];];];wax;", 188, 0);
        begun("again 30[again 30[again 30[again 30[again 30[again 30[];];];];];];wax;", 0, 0);
        OwedBell bell = new OwedBell();
        edge.due("one WORK", Check.work(bell, Check.times(7, "again 30[night;];")), 193);
        edge.due("the next begins 200 of its own", Check.work(bell, Check.times(7, "again 30[night;];")), 193);
        edge.due("NIGHT", bell.told(2), 386);
    }

    private static void sixteenWorks() {
        edge.holds(5, "-20 behind the exception, ahead of the FAULT (nothing is read, there is no FAULT, the TAPE is empty then): "
                + "16 WORKS are there that were not undone.");
        OwedBell bell = Check.told("chest 50;");
        for (int i = 1; i <= 16; i++) {
            edge.due("WORK " + i, Check.work(bell, i == 16 ? "wax;wax;" : "pay 1;"), 1);
            edge.due("to undo", bell.kept(2), i);
        }
        String before = Edge.look(bell);
        edge.due("a FAULT ahead", Check.book(bell, " x"), -9);
        edge.due("its place", bell.fault(), 1);
        edge.refused("the exception goes ahead", (b, a) -> b.work(1), bell, new int[0], Edge.BAD);
        edge.due("it leaves the FAULT", bell.fault(), 1);
        Check.feed(bell, "pay 1;");
        edge.refused("the exception goes ahead", (b, a) -> b.work(21), bell, new int[0], Edge.BAD);
        edge.refused("the exception goes ahead", (b, a) -> b.work(-1), bell, new int[0], Edge.BAD);
        edge.due("the TAPE stays", bell.kept(1), 20);
        edge.due("a 17th", bell.work(6), -20);
        edge.due("there is no FAULT", bell.fault(), -1);
        edge.due("the TAPE is empty then", bell.kept(1), 0);
        edge.due("a 17th with a FAULT", Check.work(bell, "pay 1000;"), -20);
        edge.due("there is no FAULT", bell.fault(), -1);
        edge.due("a 17th without STEPS", bell.work(0), -20);
        edge.due("-20 leaves what was REFUSED", bell.told(11), 1);
        edge.same("nothing is done", Edge.look(bell), before);
        edge.due("no refusal but three", bell.status(1), 3);
        edge.due("undone", bell.undo(), 15);
        edge.due("a FAULT again", Check.work(bell, "pay 1000;"), -8);
        edge.due("a FAULT is no WORK", bell.kept(2), 15);
        edge.due("a 16th again", Check.work(bell, "pay 1;"), 1);
        edge.due("a 17th again", Check.work(bell, "pay 1;"), -20);
        bell.image();
        bell.undo();
        bell.undo();
        edge.due("14 are left", bell.kept(2), 14);
        edge.due("restored", bell.restore(), 0);
        edge.due("16 again", Check.work(bell, "pay 1;"), -20);
        Check.abbey(bell, "");
        edge.due("none in a new ABBEY", Check.work(bell, "wax;"), 1);
    }

    // ---- promise 6 ----

    private static void bookLength() {
        edge.holds(6, "Likewise the BOOK (n to 100): how many lines.");
        edge.textLength("book", (b, a) -> b.book(a[0]), 100);
        OwedBell bell = Check.told("", "7");
        edge.due("99 bytes", Check.book(bell, "0 7;" + Check.times(95, " ")), 1);
        edge.due("100 bytes", Check.book(bell, Check.times(91, " ") + "0 7;1 00;"), 2);
        edge.due("both lines are read", bell.fits(0), 0);
        Check.feed(bell, "0 7;" + Check.times(97, " "));
        edge.refused("101 bytes", (b, a) -> b.book(101), bell, new int[0], Edge.BAD);
        edge.due("the BOOK stays", bell.told(10), 2);
        edge.due("the TAPE stays", bell.kept(1), 120);
        edge.due("100 of them", bell.book(100), 1);
        edge.due("one line", bell.fits(0), 4200);
        edge.due("no lines", bell.book(0), 0);
        edge.due("no lines", bell.told(10), 0);
        edge.due("blanks are no lines", Check.book(bell, "   "), 0);
    }

    private static void bookLines() {
        edge.holds(6, "A BOOK is a text of up to 100 bytes: { I N \";\" }, 8 lines at most, no I twice");
        OwedBell bell = new OwedBell();
        String lines = "";
        for (int i = 0; i < 8; i++) {
            lines = lines + i + " 10;";
            edge.due(i + 1 + " lines", Check.book(bell, lines), i + 1);
            edge.due("told", bell.told(10), i + 1);
        }
        edge.holds(6, "a line (at its I) too many");
        edge.bookFault(lines + "8 10;", Edge.MANY, 40);
        edge.bookFault(lines + "  8 10;", Edge.MANY, 42);
        edge.bookFault(lines + "8", Edge.MANY, 40);
        edge.bookFault(lines + "8 1000;", Edge.MANY, 40);
        edge.holds(6, "2 a number that is none such (an I twice)");
        edge.bookFault("0 10;0 10;", Edge.NUMBER, 5);
        edge.bookFault("0 10; 00 11;", Edge.NUMBER, 6);
        edge.bookFault("7 0;8 0;7 0;", Edge.NUMBER, 8);
        edge.bookFault("59 0;59", Edge.NUMBER, 5);
        edge.bookFault("7 0;7 1000;", Edge.NUMBER, 4);
        edge.holds(6, "in NIGHT I (0 to 59) N strokes were counted (0 to 999)");
        for (int i : new int[] {0, 1, 58, 59}) {
            edge.due("I " + i, Check.book(bell, i + " 9;"), 1);
            edge.due("I 000000000000" + i, Check.book(bell, "000000000000" + i + " 9;"), 1);
            edge.due("not in it", Check.book(bell, i + " 9;" + (59 - i) + " 9;"), 2);
        }
        for (int n : new int[] {0, 1, 998, 999}) {
            OwedBell by = Check.told("", "night*0+" + n);
            edge.due("N " + n, Check.book(by, "0 " + n + ";59 000000" + n + ";"), 2);
            edge.due("N " + n + " is right", by.fits(0), 4200);
        }
        edge.bookFault("60 9;", Edge.NUMBER, 0);
        edge.bookFault("  60 9;", Edge.NUMBER, 2);
        edge.bookFault("9 1000;", Edge.NUMBER, 2);
        edge.bookFault("4294967296 1;", Edge.NUMBER, 0);
        edge.bookFault("18446744073709551616 1;", Edge.NUMBER, 0);
        edge.bookFault("1 4294967296;", Edge.NUMBER, 2);
        edge.holds(6, "1 what can't stand there (at the length, if the text ends too early)");
        Object[][] faults = {{"9", 1}, {"9 ", 2}, {"9 1", 3}, {"9 1 ", 4}, {"9;", 1}, {";", 0}, {"-1 1;", 0}, {"9 -1;", 2},
            {"9,1;", 1}, {"9 1,", 3}, {"9 1 1;", 4}, {"9 1;;", 4}, {"x", 0}, {"9 x;", 2}, {"9 1;x", 4}, {"night 9;", 0}};
        for (Object[] row : faults) {
            edge.bookFault((String) row[0], Edge.CANNOT, (Integer) row[1]);
        }
        for (int i = 0; i < Edge.SIGNS_AROUND.length(); i++) {
            edge.bookFault(Edge.SIGNS_AROUND.charAt(i) + "9 1;", Edge.CANNOT, 0);
            edge.bookFault("9" + Edge.SIGNS_AROUND.charAt(i) + "1;", Edge.CANNOT, 1);
            edge.bookFault("9 1;" + Edge.SIGNS_AROUND.charAt(i), Edge.CANNOT, 4);
        }
        edge.bookFault("91;", Edge.NUMBER, 0);
        edge.holds(6, "of one the least.");
        edge.bookFault(lines + "60 1;", Edge.NUMBER, 40);
        edge.bookFault(lines + "7 1;", Edge.NUMBER, 40);
        edge.bookFault(lines + "x", Edge.CANNOT, 40);
        edge.bookFault(lines + ";", Edge.CANNOT, 40);
    }

    // ---- promise 7 ----

    private static void faultPlaces() {
        edge.holds(7, "The place of the FAULT of the latest text; NONE without.");
        OwedBell bell = new OwedBell();
        edge.due("no text", bell.fault(), -1);
        Check.abbey(bell, "!");
        edge.due("at 0", bell.fault(), 0);
        edge.refused("no text", (b, a) -> b.abbey(1), bell, new int[0], Edge.BAD);
        edge.due("the latest text's", bell.fault(), 0);
        bell.law(0);
        edge.due("the length, 0", bell.fault(), 0);
        Check.law(bell, Check.times(150, " "));
        edge.due("the length, 150", bell.fault(), 150);
        Check.abbey(bell, Check.times(599, " ") + "!");
        edge.due("the last of 600", bell.fault(), 599);
        Check.abbey(bell, Check.times(597, " ") + "owe");
        edge.due("the length, 600", bell.fault(), 600);
        Check.work(bell, Check.times(150, " "));
        edge.due("none in a WORK", bell.fault(), -1);
        Check.book(bell, Check.times(99, " ") + "5");
        edge.due("the length, 100", bell.fault(), 100);
        bell.feed(0, 0, 0, 0, 0);
        bell.image();
        bell.restore();
        bell.undo();
        edge.due("no text since", bell.fault(), 100);
        bell.book(0);
        edge.due("none in a BOOK", bell.fault(), -1);
        Check.work(bell, "x");
        edge.due("at 0", bell.fault(), 0);
        bell.abbey(0);
        edge.due("none in an ABBEY", bell.fault(), -1);
        Check.book(bell, "x");
        Check.law(bell, "7");
        edge.due("none in a LAW", bell.fault(), -1);
    }
}
