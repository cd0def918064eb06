import java.util.NoSuchElementException;
import java.util.Random;

/**
 * Drawn calls with drawn arguments, the utmost ones too, and texts that are whole, broken or noise: no call throws
 * but by its own throw, status counts what was thrown, what is told stays in its bounds.
 */
public final class FuzzTest {
    private static final Check check = new Check("FuzzTest");
    private static final String[] PIECES = {"owe 9999;", "rate 20;", "chest 999;", "harvest 3 99;", "village 20;",
        "village 1;", "cell 0;", "cell 9;", "monk 0;", "monk 40;", "heir 99;", "heir 1;", "pay 9;", "pay 999;",
        "alms 0;", "alms 1;", "wax;", "receipt 999;", "swap 0 1;", "night;", "again 30 [night;];",
        "again 5[again 30[alms 0;pay 3;night;];];", "0 10;", "59 0;", "7 999;", "asks", "paid", "night", "quiet",
        "wax", "storm", "chest", "least[", "most[", "(", ")", "]", ",", "+", "-", "*", "/", "%", "0", "1", "999",
        " ", ";", "again 3 [", "];"};

    private static int none;
    private static int bad;

    public static void main(String[] args) {
        for (int seed = 0; seed < 600; seed++) {
            Random random = new Random(seed);
            OwedBell bell = new OwedBell();
            none = 0;
            bad = 0;
            for (int i = 0; i < 60; i++) {
                one("seed " + seed + ", call " + i, bell, random);
            }
            check.due("status 0 of seed " + seed, bell.status(0), none);
            check.due("status 1 of seed " + seed, bell.status(1), bad);
            bounds("seed " + seed, bell);
        }
        check.end();
    }

    private static void one(String name, OwedBell bell, Random random) {
        try {
            call(bell, random);
        } catch (NoSuchElementException e) {
            none++;
            check.isTrue(name + ": thrown by itself", isOwn(e));
        } catch (IllegalArgumentException e) {
            bad++;
            check.isTrue(name + ": thrown by itself", isOwn(e));
        } catch (RuntimeException e) {
            check.isTrue(name + " threw " + e, false);
        }
    }

    private static boolean isOwn(RuntimeException e) {
        return e.getStackTrace()[0].getMethodName().startsWith("need");
    }

    private static int some(Random random, int least, int most) {
        switch (random.nextInt(12)) {
            case 0: return least - 1;
            case 1: return most + 1;
            case 2: return random.nextInt();
            case 3: return random.nextBoolean() ? Integer.MIN_VALUE : Integer.MAX_VALUE;
            case 4: return most;
            case 5: return least;
            default: return least + random.nextInt(most - least + 1);
        }
    }

    private static String text(Random random) {
        StringBuilder text = new StringBuilder();
        int from = random.nextInt(PIECES.length);
        for (int i = random.nextInt(18); i > 0; i--) {
            text.append(PIECES[(from + random.nextInt(14)) % PIECES.length]);
        }
        if (text.length() > 0 && random.nextInt(4) == 0) {
            text.setCharAt(random.nextInt(text.length()), (char) random.nextInt(256));
        }
        return text.toString();
    }

    private static void call(OwedBell bell, Random random) {
        int kind = random.nextInt(44);
        if (kind < 12) {
            texts(bell, random, kind);
        } else if (kind < 28) {
            told(bell, random, kind);
        } else {
            asked(bell, random, kind);
        }
    }

    private static void texts(OwedBell bell, Random random, int kind) {
        if (random.nextInt(3) > 0) {
            bell.law(0);
        }
        String text = text(random);
        int n = random.nextInt(8) == 0 ? some(random, 0, 160) : Check.feed(bell, text);
        int answer;
        switch (kind % 4) {
            case 0: answer = bell.abbey(n); break;
            case 1: answer = bell.law(n); break;
            case 2: answer = bell.work(n); break;
            default: answer = bell.book(n); break;
        }
        check.isTrue("a FAULT has a place: " + text,
                answer >= 0 || answer == -20 ? bell.fault() == -1 : bell.fault() >= 0 && bell.fault() <= n);
        check.due("the TAPE is empty", bell.kept(1), 0);
    }

    private static void told(OwedBell bell, Random random, int kind) {
        switch (kind) {
            case 12: bell.told(some(random, 0, 12)); break;
            case 13: bell.many(some(random, 0, 3)); break;
            case 14: bell.monk(some(random, 0, 3), some(random, 0, 3)); break;
            case 15: bell.village(some(random, 0, 3), some(random, 0, 1)); break;
            case 16: bell.cell(some(random, 0, 3)); break;
            case 17: bell.heir(some(random, 0, 3)); break;
            case 18: bell.strokes(); break;
            case 19: bell.would(some(random, 0, 99999), some(random, 0, 999), some(random, 0, 999),
                    some(random, 0, 999), some(random, 0, 1), some(random, 0, 1), some(random, 0, 9999)); break;
            case 20: bell.noise(some(random, 0, 3), some(random, 0, 999)); break;
            case 21: bell.undo(); break;
            case 22: bell.image(); break;
            case 23: bell.restore(); break;
            case 24: bell.status(some(random, 0, 1)); break;
            case 25: bell.kept(some(random, 0, 2)); break;
            case 26: bell.fault(); break;
            default: bell.feed(random.nextInt(), random.nextInt(), 0, -1, Integer.MIN_VALUE); break;
        }
    }

    private static void asked(OwedBell bell, Random random, int kind) {
        switch (kind) {
            case 28: bell.ahead(some(random, 0, 60), some(random, 0, 3)); break;
            case 29: bell.loudest(some(random, 0, 1)); break;
            case 30: bell.hush(some(random, 0, 999)); break;
            case 31: bell.plan(some(random, 0, 5), some(random, 0, 999), some(random, 0, 31), some(random, 0, 1)); break;
            case 32: bell.fits(some(random, 0, 3)); break;
            case 33: bell.count(some(random, 0, 1)); break;
            case 34: bell.mistaken(some(random, 0, 8), some(random, 0, 16), some(random, 0, 16), some(random, 0, 9),
                    some(random, 0, 1), some(random, 0, 1)); break;
            case 35: bell.best(some(random, 0, 8), some(random, 0, 16), some(random, 0, 16)); break;
            case 36: bell.beds(some(random, 0, 999)); break;
            case 37: bell.bed(some(random, 0, 3), some(random, 0, 999)); break;
            case 38: bell.watch(some(random, 0, 3), some(random, 0, 60)); break;
            case 39: bell.heirs(some(random, 0, 9), some(random, 0, 2)); break;
            case 40: bell.sleepers(some(random, 0, 999)); bell.level(some(random, 0, 200)); break;
            case 41: bell.grows(some(random, 0, 99999)); bell.bears(some(random, 0, 3), some(random, 0, 3)); break;
            case 42: bell.years(random.nextInt(), some(random, 1, 96), some(random, 0, 16), some(random, 0, 16),
                    some(random, 0, 99), some(random, 0, 3)); break;
            default: bell.span(random.nextInt(), some(random, 1, 20), some(random, 1, 96), some(random, 0, 16),
                    some(random, 0, 16), some(random, 0, 99), some(random, 0, 2)); break;
        }
    }

    private static void bounds(String name, OwedBell bell) {
        int[] most = {99999, 9999, 999, 999, 9999, 1, 999, 7, 999 * 999, 8 * 999, 8, 200, 999};
        for (int what = 0; what < most.length; what++) {
            check.isTrue(name + ": told " + what, bell.told(what) >= 0 && bell.told(what) <= most[what]);
        }
        check.isTrue(name + ": strokes", bell.strokes() >= 0 && bell.strokes() <= 999);
        check.isTrue(name + ": WORKS", bell.kept(2) >= 0 && bell.kept(2) <= 16);
        check.isTrue(name + ": IMAGES", bell.kept(0) >= 0 && bell.kept(0) <= 3);
    }
}
