import java.util.Random;

/** A drawn E of a LAW with its value by seven told numbers, reckoned while it is drawn. */
final class Sum {
    private static final String[] WORDS = {"asks", "paid", "night", "quiet", "wax", "storm", "chest"};

    final String text;
    final int value;

    private Sum(String text, int value) {
        this.text = text;
        this.value = value;
    }

    static Sum draw(Random random, int[] told, int depth) {
        Sum all = product(random, told, depth);
        for (int i = random.nextInt(3); i > 0; i--) {
            Sum next = product(random, told, depth);
            boolean plus = random.nextBoolean();
            all = new Sum(all.text + blank(random) + (plus ? "+" : "-") + next.text,
                    plus ? all.value + next.value : all.value - next.value);
        }
        return all;
    }

    private static Sum product(Random random, int[] told, int depth) {
        Sum all = unit(random, told, depth);
        for (int i = random.nextInt(5) / 2; i > 0; i--) {
            Sum next = unit(random, told, depth);
            int kind = random.nextInt(3);
            int value = kind == 0 ? all.value * next.value
                    : next.value == 0 ? 0 : kind == 1 ? all.value / next.value : all.value % next.value;
            all = new Sum(all.text + blank(random) + "*/%".charAt(kind) + next.text, value);
        }
        return all;
    }

    private static Sum unit(Random random, int[] told, int depth) {
        int kind = random.nextInt(depth < 3 ? 9 : 6);
        if (kind < 4) {
            int which = random.nextInt(7);
            return new Sum(blank(random) + WORDS[which], told[which]);
        } else if (kind < 6) {
            int number = random.nextInt(random.nextBoolean() ? 10 : 1000);
            return new Sum(blank(random) + number, number);
        }
        Sum a = draw(random, told, depth + 1);
        if (kind == 6) {
            return new Sum(blank(random) + "(" + a.text + blank(random) + ")", a.value);
        }
        Sum b = draw(random, told, depth + 1);
        return new Sum(blank(random) + (kind == 7 ? "least" : "most") + blank(random) + "[" + a.text + blank(random)
                + "," + b.text + blank(random) + "]", kind == 7 ? Math.min(a.value, b.value) : Math.max(a.value, b.value));
    }

    private static String blank(Random random) {
        return random.nextInt(6) == 0 ? "  " : "";
    }
}
