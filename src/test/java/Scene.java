import java.util.ArrayList;
import java.util.List;
import java.util.Random;

/** A drawn ABBEY, its LAW and some WORKS that are done: made anew as often as a test wants it. */
final class Scene {
    final String abbey;
    final String law;
    final List<String> works = new ArrayList<>();

    Scene(Random random) {
        abbey = drawAbbey(random);
        String drawn = random.nextInt(4) == 0 ? "asks/10" : Sum.draw(random, new int[7], 0).text;
        law = drawn.length() > 150 ? "asks-paid*2+quiet" : drawn;
        OwedBell bell = make();
        for (int i = random.nextInt(4); i > 0; i--) {
            works.add(drawWork(random, bell));
        }
    }

    OwedBell make() {
        OwedBell bell = Check.told(abbey, law);
        for (String work : works) {
            if (Check.work(bell, work) < 0) {
                throw new IllegalStateException("a test's WORK has a FAULT: " + work);
            }
        }
        return bell;
    }

    OwedBell makeAfter(int nights) {
        OwedBell bell = make();
        Check.work(bell, Check.times(nights / 30, "again 30[night;];") + "again " + nights % 30 + "[night;];");
        return bell;
    }

    String name() {
        return abbey + " by " + law + " " + works + ": ";
    }

    private static String drawAbbey(Random random) {
        StringBuilder text = new StringBuilder();
        text.append("owe ").append(random.nextInt(random.nextBoolean() ? 100 : 2000)).append(';');
        text.append("rate ").append(random.nextInt(21)).append(';');
        text.append("chest ").append(random.nextInt(random.nextBoolean() ? 100 : 1000)).append(';');
        drawMany(random, text, random.nextInt(4), "harvest " + random.nextInt(12) + " ", 0, 99);
        drawMany(random, text, random.nextInt(7), "village ", 1, 20);
        int cells = random.nextInt(8);
        drawMany(random, text, cells, "cell ", 0, 9);
        drawMany(random, text, random.nextInt(cells + 1), "monk ", 0, 40);
        drawMany(random, text, random.nextInt(5), "heir ", 1, 99);
        return text.toString();
    }

    private static void drawMany(Random random, StringBuilder text, int many, String word, int least, int most) {
        for (int i = 0; i < many; i++) {
            text.append(word).append(least + random.nextInt(most - least + 1)).append(';');
        }
    }

    private static String drawWork(Random random, OwedBell bell) {
        StringBuilder text = new StringBuilder();
        for (int i = random.nextInt(8); i > 0; i--) {
            text.append(drawStep(random, bell.many(0), bell.many(2))).append(';');
        }
        return text.toString();
    }

    private static String drawStep(Random random, int villages, int monks) {
        switch (random.nextInt(7)) {
            case 0: return "pay " + (1 + random.nextInt(40));
            case 1: return villages > 0 ? "alms " + random.nextInt(villages) : "wax";
            case 2: return "wax";
            case 3: return "receipt " + (1 + random.nextInt(90));
            case 4: return monks > 0 ? "swap " + random.nextInt(monks) + " " + random.nextInt(monks) : "night";
            case 5: return "again " + random.nextInt(9) + "[night;]";
            default: return "night";
        }
    }
}
