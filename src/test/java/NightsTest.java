/** Promises 5, 8 to 20, 31: what STEPS do, what a NIGHT does, what is told of nights to come. */
public final class NightsTest {
    private static final Check check = new Check("NightsTest");

    public static void main(String[] args) {
        paying();
        alms();
        receipts();
        theLeastReceipt();
        noStormInWork();
        strokesWithAReceipt();
        waxAndWaking();
        swapping();
        quietNights();
        harvestAndInterest();
        theLastNight();
        undoing();
        telling();
        wouldAndNoise();
        nightsToCome();
        hushing();
        growing();
        check.end();
    }

    private static void paying() {
        OwedBell bell = Check.told("owe 50;chest 80;", "paid");
        check.due("pay 30; more than is OWED; 20; nothing is OWED", Check.work(bell, "pay 30;pay 21;pay 20;pay 1;"), 2);
        check.due("REFUSED", bell.told(11), 2);
        check.due("OWED", bell.told(0), 0);
        check.due("CHEST", bell.told(1), 30);
        check.due("paid", bell.told(4), 50);
        check.due("strokes by paid", bell.strokes(), 50);
        Check.work(bell, "night;");
        check.due("nothing is paid since", bell.told(4), 0);
        OwedBell poor = Check.told("owe 50;chest 20;");
        check.due("more than is in the CHEST, then all", Check.work(poor, "pay 21;pay 20;"), 1);
        check.due("CHEST", poor.told(1), 0);
        check.due("OWED", poor.told(0), 30);
    }

    private static void alms() {
        OwedBell bell = Check.told("village 20;village 3;harvest 0 99;");
        check.due("each once", Check.work(bell, "alms 1;alms 0;alms 1;alms 0;"), 2);
        check.due("CHEST", bell.told(1), 23);
        check.due("gave", bell.village(0, 1), 1);
        Check.work(bell, "night;alms 1;");
        check.due("CHEST with the harvest", bell.told(1), 125);
        check.due("did not give", bell.village(0, 1), 0);
        check.due("gave again", bell.village(1, 1), 1);
        check.none("no VILLAGE", () -> bell.village(2, 0));
        check.none("no VILLAGE -1, ahead of others", () -> bell.village(-1, 7));
        check.bad("another what", () -> bell.village(0, 2));
        OwedBell rich = Check.told("village 20;chest 999;" + Check.harvests(99));
        for (int i = 0; i < 10; i++) {
            Check.work(rich, "again 10 [night;];");
        }
        check.due("9,999 at most by harvests", rich.told(1), 9999);
        Check.work(rich, "pay 9;");
        check.due("CHEST", rich.told(1), 9990);
        check.due("alms are done", Check.work(rich, "alms 0;"), 1);
        check.due("9,999 at most by alms", rich.told(1), 9999);
    }

    private static void receipts() {
        OwedBell bell = Check.told("owe 100;", "asks");
        Check.work(bell, "receipt 60;receipt 10;");
        check.due("one hangs", bell.told(11), 1);
        for (int i = 7; i >= 1; i--) {
            check.due("N", bell.told(6), 60);
            check.due("NIGHTS still", bell.told(7), i);
            check.due("came down", bell.told(12), 0);
            check.due("strokes", bell.strokes(), 40);
            Check.work(bell, "night;");
        }
        check.due("nothing hangs", bell.told(6), 0);
        check.due("no NIGHTS", bell.told(7), 0);
        check.due("came down", bell.told(12), 60);
        check.due("strokes by what is owed, and N", bell.strokes(), 160);
        check.due("another may hang", Check.work(bell, "receipt 30;"), 1);
        check.due("came down, still", bell.told(12), 60);
        check.due("strokes", bell.strokes(), 130);
        check.due("in 2 NIGHTS", bell.ahead(2, 0), 200);
        check.due("in 8 NIGHTS", bell.ahead(8, 0), 130 + 70 * 4 + (105 - 30) * 2 + 105 + 30);
        Check.work(bell, "night;");
        check.due("came down no more", bell.told(12), 0);
        check.due("NIGHTS still", bell.told(7), 6);
    }

    private static void theLeastReceipt() {
        OwedBell bell = Check.told("owe 100;", "asks");
        check.due("of 1, twice", Check.work(bell, "receipt 1;receipt 1;"), 1);
        check.due("strokes", bell.strokes(), 99);
        Check.work(bell, "again 7 [night;];");
        check.due("came down", bell.told(12), 1);
        check.due("strokes", bell.strokes(), 101);
    }

    private static void strokesWithAReceipt() {
        OwedBell bell = Check.told("owe 100;", "asks");
        Check.work(bell, "receipt 999;");
        check.due("asks is 0 at least", bell.strokes(), 0);
        Check.work(bell, "again 7 [night;];");
        check.due("999 at most in all", bell.strokes(), 999);
        Check.law(bell, "0-50");
        check.due("the LAW gives 0 at least", bell.strokes(), 999);
        OwedBell other = Check.told("owe 100;", "0-50");
        Check.work(other, "receipt 30;again 7 [night;];");
        check.due("strikes N alone", other.strokes(), 30);
        check.due("by the LAW alone", other.would(9, 0, 0, 0, 0, 0, 0), 0);
    }

    private static void waxAndWaking() {
        OwedBell bell = Check.told("cell 0;cell 2;monk 10;monk 3;", "11");
        check.due("11 is above 10", bell.monk(0, 2), 1);
        check.due("3 is not above 3", bell.monk(1, 2), 0);
        check.due("wax twice", Check.work(bell, "wax;wax;"), 1);
        check.due("wax", bell.told(5), 1);
        check.due("5 with wax", bell.monk(0, 2), 0);
        Check.work(bell, "night;");
        check.due("none woke", bell.told(9), 0);
        check.due("wax is gone", bell.told(5), 0);
        Check.work(bell, "night;night;");
        check.due("woke", bell.told(9), 2);
        check.due("he woke", bell.monk(0, 3), 2);
        check.due("he did not", bell.monk(1, 3), 0);
        check.due("STROKES in all", bell.told(8), 33);
        OwedBell cut = Check.told("cell 0;cell 2;monk 0;monk 0;", "5");
        check.due("5 by 3 is 1, above 0", cut.monk(1, 2), 1);
        Check.work(cut, "wax;");
        check.due("1 by 2 is 0", cut.monk(1, 2), 0);
        check.due("5 by 2 is 2", cut.monk(0, 2), 1);
        check.due("asked without wax", cut.sleepers(2), 2);
        check.due("in the LAW", Check.law(cut, "wax*7"), 1);
        check.due("strokes by wax", cut.strokes(), 7);
    }

    private static void swapping() {
        OwedBell bell = Check.told("cell 0;cell 9;cell 3;monk 5;monk 6;");
        check.due("swap", Check.work(bell, "swap 0 1;swap 0 0;"), 1);
        check.due("CELL of 0", bell.monk(0, 1), 1);
        check.due("CELL of 1", bell.monk(1, 1), 0);
        check.due("sleep by 10", bell.sleepers(10), 1);
        Check.work(bell, "swap 1 0;night;");
        check.due("CELL of 0", bell.monk(0, 1), 0);
        check.due("1 wakes no more", bell.monk(1, 3), 0);
        check.due("0 woke", bell.monk(0, 3), 1);
    }

    private static void noStormInWork() {
        OwedBell bell = Check.told("chest 99;cell 0;monk 5;", "storm*90");
        check.due("strokes", bell.strokes(), 0);
        check.due("wakes", bell.monk(0, 2), 0);
        check.due("ahead", bell.ahead(5, 0), 0);
        check.due("loudest", bell.loudest(1), 0);
        check.due("hush", bell.hush(0), 0);
        check.due("plan", bell.plan(2, 0, 3, 0), 0);
        Check.book(bell, "0 0;30 0;");
        check.due("fits", bell.fits(0), 4200);
        Check.work(bell, "night;");
        check.due("STROKES", bell.told(8), 0);
        check.due("years", bell.years(1, 2, 16, 0, 0, 1), 180);
    }

    private static void quietNights() {
        OwedBell bell = Check.told("", "night%4/3");
        Check.work(bell, "again 3 [night;];");
        check.due("QUIET", bell.told(3), 3);
        Check.work(bell, "night;");
        check.due("QUIET after a stroke", bell.told(3), 0);
        Check.work(bell, "night;");
        check.due("QUIET", bell.told(3), 1);
        check.due("silent NIGHTS", bell.ahead(8, 3), 6);
        Check.law(bell, "quiet*10");
        check.due("by QUIET", bell.strokes(), 10);
        check.due("by QUIET, in 3 NIGHTS", bell.ahead(3, 0), 20);
    }

    private static void harvestAndInterest() {
        OwedBell bell = Check.told("owe 150;rate 7;harvest 11 5;harvest 3 2;");
        Check.work(bell, "again 11 [night;];");
        check.due("no interest yet", bell.told(0), 150);
        check.due("harvest of 3", bell.told(1), 2);
        Check.work(bell, "night;");
        check.due("interest is cut", bell.told(0), 160);
        check.due("harvest of 11", bell.told(1), 7);
        Check.work(bell, "again 12 [night;];");
        check.due("interest again", bell.told(0), 171);
        check.due("harvests again", bell.told(1), 14);
        OwedBell most = Check.told("owe 9999;rate 20;");
        Check.work(most, "again 30 [night;];again 30 [night;];again 30 [night;];again 30 [night;];again 30 [night;];");
        int owed = 9999;
        for (int i = 0; i < 12; i++) {
            owed += owed / 5;
        }
        check.due("12 years, below 99,999", most.told(0), owed);
        check.due("99,999 at most", most.ahead(12, 1), 99999);
        check.due("99,999 at most", most.ahead(60, 1), 99999);
    }

    private static void theLastNight() {
        OwedBell bell = Check.told("owe 1;chest 9;rate 0;village 4;cell 0;cell 0;monk 9;monk 0;", "night%1+night");
        for (int i = 0; i < 5; i++) {
            check.due("190 NIGHTS", Check.work(bell, Check.times(6, "again 30 [night;];") + "again 10[night;];"), 190);
        }
        check.due("NIGHT", bell.told(2), 950);
        check.due("49 NIGHTS alone", Check.work(bell, "again 30 [night;];again 30 [night;];"), 49);
        check.due("REFUSED", bell.told(11), 11);
        check.due("NIGHT", bell.told(2), 999);
        check.due("other STEPS go on", Check.work(bell, "pay 1;alms 0;wax;receipt 5;swap 0 1;night;"), 5);
        check.due("REFUSED", bell.told(11), 1);
        check.due("asked, NIGHTS go by", bell.ahead(3, 0), 999 * 3);
        check.due("asked, nothing stays changed", bell.told(2), 999);
        Check.law(bell, "night-999");
        check.due("beyond 999, too", bell.ahead(4, 0), 6);
        check.due("beyond 999, too", bell.loudest(1), 59);
    }

    private static void undoing() {
        OwedBell bell = Check.told("owe 90;chest 70;rate 9;village 5;cell 0;cell 1;monk 4;monk 1;harvest 1 6;", "asks/8+quiet");
        check.due("nothing to undo", bell.undo(), -1);
        int[][] seen = new int[5][];
        String[] works = {"pay 30;alms 0;wax;receipt 12;swap 0 1;pay 99;", "again 8 [night;];", "", "wax;alms 0;night;pay 5;"};
        for (int i = 0; i < works.length; i++) {
            seen[i] = all(bell);
            Check.work(bell, works[i]);
        }
        for (int i = works.length - 1; i >= 0; i--) {
            check.due("undo " + i, bell.undo(), i);
            same("undo " + i, all(bell), seen[i]);
            check.due("none REFUSED behind undo", bell.told(11), 0);
        }
        check.due("nothing to undo", bell.undo(), -1);
        Check.work(bell, "wax;wax;");
        Check.law(bell, "7");
        bell.undo();
        check.due("the LAW is not undone", bell.strokes(), 7);
        Check.work(bell, "wax;wax;");
        check.due("1 REFUSED", bell.told(11), 1);
        check.due("undo", bell.undo(), 0);
        Check.work(bell, "wax;wax;");
        bell.image();
        bell.undo();
        Check.work(bell, "wax;wax;wax;");
        bell.undo();
        check.due("-1", bell.undo(), -1);
        check.due("none REFUSED", bell.told(11), 0);
        check.due("all REFUSED", Check.work(bell, "swap 0 0;"), 0);
        check.due("that too is undone", bell.undo(), 0);
    }

    private static void same(String what, int[] got, int[] want) {
        for (int i = 0; i < want.length; i++) {
            check.due(what + ", value " + i, got[i], want[i]);
        }
    }

    private static int[] all(OwedBell bell) {
        int[] all = new int[40];
        int many = 0;
        for (int i = 0; i <= 12; i++) {
            if (i != 11) {
                all[many++] = bell.told(i);
            }
        }
        for (int i = 0; i < bell.many(2); i++) {
            for (int k = 0; k < 4; k++) {
                all[many++] = bell.monk(i, k);
            }
        }
        for (int i = 0; i < bell.many(0); i++) {
            all[many++] = bell.village(i, 1);
        }
        all[many] = bell.strokes();
        return all;
    }

    private static void telling() {
        OwedBell bell = Check.told("village 1;cell 2;cell 3;monk 4;heir 5;");
        check.bad("told 13", () -> bell.told(13));
        check.bad("told -1", () -> bell.told(-1));
        check.bad("many 4", () -> bell.many(4));
        check.bad("many -1", () -> bell.many(-1));
        check.none("monk 1", () -> bell.monk(1, 0));
        check.none("monk -1", () -> bell.monk(-1, 0));
        check.none("monk 1, ahead of others", () -> bell.monk(1, 9));
        check.bad("monk 0, what 4", () -> bell.monk(0, 4));
        check.bad("monk 0, what -1", () -> bell.monk(0, -1));
        check.none("cell 2", () -> bell.cell(2));
        check.none("cell -1", () -> bell.cell(-1));
        check.none("heir 1", () -> bell.heir(1));
        check.none("heir -1", () -> bell.heir(-1));
        check.due("heir 0", bell.heir(0), 5);
        check.due("cell 1", bell.cell(1), 3);
        check.due("status 0", bell.status(0), 7);
        check.due("status 1", bell.status(1), 6);
        check.due("status 2", bell.status(2), -1);
        check.due("status -1", bell.status(-1), -1);
        bell.image();
        check.bad("told 99", () -> bell.told(99));
        bell.restore();
        check.due("no IMAGE keeps it", bell.status(1), 7);
        Check.abbey(bell, "");
        check.due("nor does an ABBEY take it away", bell.status(1), 7);
        check.due("answers of -1 are none", bell.undo() + bell.restore() + bell.status(1), 5);
    }

    private static void wouldAndNoise() {
        OwedBell bell = Check.told("cell 0;cell 4;monk 7;", "asks+paid+night+quiet+wax+storm+chest");
        check.due("would", bell.would(100, 20, 3, 4, 1, 1, 50), 179);
        check.due("would, least", bell.would(0, 0, 0, 0, 0, 0, 0), 0);
        check.due("would, most", bell.would(99999, 999, 999, 999, 1, 1, 9999), 999);
        int[] most = {99999, 999, 999, 999, 1, 1, 9999};
        for (int i = 0; i < 7; i++) {
            for (int bad : new int[] {-1, most[i] + 1}) {
                int[] a = new int[7];
                a[i] = bad;
                check.bad("would, " + i + ": " + bad, () -> bell.would(a[0], a[1], a[2], a[3], a[4], a[5], a[6]));
            }
        }
        check.due("noise", bell.noise(0, 999), 999);
        check.due("noise", bell.noise(1, 999), 199);
        check.due("noise", bell.noise(1, 4), 0);
        Check.work(bell, "wax;");
        check.due("noise without wax", bell.noise(1, 999), 199);
        check.none("noise 2", () -> bell.noise(2, 0));
        check.none("noise -1, ahead of others", () -> bell.noise(-1, 1000));
        check.bad("noise of 1000", () -> bell.noise(0, 1000));
        check.bad("noise of -1", () -> bell.noise(0, -1));
    }

    private static void nightsToCome() {
        OwedBell bell = Check.told("cell 0;cell 1;monk 20;monk 3;", "night%5*10");
        check.due("0 10 20 30 40 0", bell.ahead(6, 0), 100);
        check.due("in no NIGHT", bell.ahead(0, 0) + bell.ahead(0, 2) + bell.ahead(0, 3), 0);
        check.due("OWED in no NIGHT", bell.ahead(0, 1), 100);
        check.due("wake", bell.ahead(6, 2), 4 + 2);
        check.due("silent", bell.ahead(6, 3), 2);
        check.due("loudest", bell.loudest(0), 4);
        check.due("how often", bell.loudest(1), 40);
        Check.work(bell, "again 4 [night;];wax;");
        check.due("this one", bell.loudest(0), 0);
        check.due("40 by 2 is not above 20 with wax, by 4 it is above 3", bell.ahead(1, 2), 1);
        check.due("wax is for this NIGHT alone", bell.ahead(6, 2), 1 + 6);
        check.due("asked, nothing stays changed", bell.told(2), 4);
        check.due("asked, nothing stays changed", bell.told(5), 1);
        Check.law(bell, "night");
        check.due("the last of 60", bell.loudest(0), 59);
        check.due("its strokes", bell.loudest(1), 63);
        Check.law(bell, "0");
        check.due("all alike: the first", bell.loudest(0), 0);
        check.due("no stroke", bell.loudest(1), 0);
        check.bad("ahead 61", () -> bell.ahead(61, 0));
        check.bad("ahead -1", () -> bell.ahead(-1, 0));
        check.bad("ahead what 4", () -> bell.ahead(1, 4));
        check.bad("ahead what -1", () -> bell.ahead(1, -1));
        check.bad("loudest 2", () -> bell.loudest(2));
        check.bad("loudest -1", () -> bell.loudest(-1));
    }

    private static void hushing() {
        OwedBell bell = Check.told("owe 60;chest 40;", "asks-paid+chest%7");
        // by 0: 60 + 40 % 7; by 28: 32 - 28 + 12 % 7; by 29: 31 - 29 + 11 % 7; by 30: 10 % 7; by 31: -2 + 9 % 7
        check.due("hush 65", bell.hush(65), 0);
        check.due("hush 8: 34 - 26 + 14 % 7, rising again by 27", bell.hush(8), 26);
        check.due("hush 6", bell.hush(6), 29);
        check.due("hush 3", bell.hush(3), 30);
        check.due("hush 0", bell.hush(0), 31);
        Check.law(bell, "asks");
        check.due("all that is in the CHEST", bell.hush(20), 40);
        check.due("more than is in the CHEST", bell.hush(19), -1);
        OwedBell rich = Check.told("owe 30;chest 90;", "paid*100%77+asks");
        int paid = 0;
        while (paid <= 30 && paid * 100 % 77 + 30 - paid > 8) {
            paid++;
        }
        check.due("hush 8", rich.hush(8), paid <= 30 ? paid : -1);
        Check.law(rich, "1");
        check.due("no more than is OWED", rich.hush(0), -1);
        check.bad("hush 1000", () -> bell.hush(1000));
        check.bad("hush -1", () -> bell.hush(-1));
        OwedBell down = Check.told("owe 60;chest 40;", "asks/10");
        Check.work(down, "receipt 20;again 7 [night;];");
        check.due("with N that came down", down.hush(24), 11);
        check.due("N alone is more", down.hush(19), -1);
        check.due("nothing stays changed", down.told(1), 40);
        OwedBell much = Check.told("owe 9999;chest 999;harvest 0 99;", "asks-999*9-9");
        Check.work(much, "night;");
        check.due("999 paid", much.hush(0), 999);
        Check.law(much, "asks-999*9-8");
        check.due("999 leave a stroke", much.hush(1), 999);
        check.due("1000 are not asked", much.hush(0), -1);
    }

    private static void growing() {
        OwedBell bell = Check.told("owe 100;rate 10;");
        check.due("now", bell.grows(0), 0);
        check.due("now", bell.grows(100), 0);
        check.due("in a year", bell.grows(110), 12);
        check.due("in two", bell.grows(111), 24);
        int owed = 100;
        for (int i = 0; i < 10; i++) {
            owed += owed * 10 / 100;
        }
        check.due("in ten", bell.grows(owed), 120);
        check.due("never", bell.grows(owed + 1), -1);
        Check.work(bell, "again 5 [night;];");
        check.due("in seven NIGHTS", bell.grows(101), 7);
        check.bad("grows 100000", () -> bell.grows(100000));
        check.bad("grows -1", () -> bell.grows(-1));
    }
}
