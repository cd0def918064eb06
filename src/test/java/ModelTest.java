import java.util.Random;

/** Drawn runs of calls on an OwedBell and on the Model of it: each answer, and each exception, is the same. */
public final class ModelTest {
    private interface Ask {
        long of();
    }

    private static final Check check = new Check("ModelTest");
    private static final String[] WHOLE_STEPS = {"night", "night", "night", "wax", "pay 7", "pay 40", "pay 300", "receipt 9",
        "receipt 999", "alms 0", "alms 1", "alms 2", "swap 0 1", "swap 1 2", "swap 0 0", "again 4[night;]", "again 12 [night;]",
        "again 30[alms 0;pay 5;night;]", "again 0[]", "again 7[again 7[wax;night;];]"};
    private static final String MIXED = " ;[](),+-*/%0123456789azowenight\u0000\u00ff{`/:";

    private static String last;

    public static void main(String[] args) {
        for (int seed = 1; seed <= 250; seed++) {
            run(new Random(seed), "seed " + seed);
        }
        check.end();
    }

    /** An object has 512 calls at most; a text takes up to 31 of them. */
    private static void run(Random random, String name) {
        OwedBell bell = new OwedBell();
        Model model = new Model();
        int[] called = {0};
        StringBuilder story = new StringBuilder(name);
        int dear = 1;
        while (called[0] < 470) {
            last = "";
            int kind = random.nextInt(100);
            if (kind < 30 || called[0] == 0) {
                text(random, bell, model, called);
            } else if (kind < 32 && dear > 0) {
                dear--;
                fits(random, bell, model, called);
            } else {
                one(random, bell, model, called);
            }
            story.append('\n').append(last);
            if (last.contains("DIFFERS")) {
                System.out.println(story);
                check.isTrue(name, false);
                return;
            }
        }
        check.isTrue(name, true);
    }

    private static void same(String call, int[] called, Ask bell, Ask model) {
        called[0]++;
        String got = answer(bell);
        String due = answer(model);
        last = last + call + " " + got + (got.equals(due) ? "; " : " DIFFERS, due is " + due + "; ");
    }

    private static String answer(Ask ask) {
        try {
            return Long.toString(ask.of());
        } catch (RuntimeException e) {
            return e.getClass().getName();
        }
    }

    // ---- texts ----

    private static void text(Random random, OwedBell bell, Model model, int[] called) {
        int kind = called[0] == 0 ? 0 : random.nextInt(24);
        String text = kind < 2 ? abbey(random) : kind < 6 ? law(random) : kind < 20 ? work(random) : book(random);
        if (called[0] > 0 && random.nextInt(5) == 0 && text.length() > 0) {
            text = spoilt(random, text);
        }
        for (int i = 0; i < text.length(); i += 20) {
            int[] a = new int[5];
            for (int k = 0; k < 20; k++) {
                a[k / 4] |= (i + k < text.length() ? text.charAt(i + k) : random.nextInt(256)) << 24 - 8 * (k % 4);
            }
            same("feed", called, () -> bell.feed(a[0], a[1], a[2], a[3], a[4]), () -> model.feed(a));
        }
        int n = random.nextInt(12) == 0 ? around(random, 0, text.length()) : Math.min(text.length(), kind < 2 ? 600 : 150);
        String name = "(" + n + ") of \"" + text + "\"";
        if (kind < 2) {
            same("abbey" + name, called, () -> bell.abbey(n), () -> model.abbey(n));
        } else if (kind < 6) {
            same("law" + name, called, () -> bell.law(n), () -> model.law(n));
        } else if (kind < 20) {
            same("work" + name, called, () -> bell.work(n), () -> model.work(n));
        } else {
            same("book" + name, called, () -> bell.book(n), () -> model.book(n));
        }
        same("fault", called, bell::fault, model::fault);
        same("told 11", called, () -> bell.told(11), () -> model.told(11));
    }

    private static String spoilt(Random random, String text) {
        int at = random.nextInt(text.length());
        char sign = MIXED.charAt(random.nextInt(MIXED.length()));
        switch (random.nextInt(4)) {
            case 0: return text.substring(0, at);
            case 1: return text.substring(0, at) + text.substring(at + 1);
            case 2: return text.substring(0, at) + sign + text.substring(at + 1);
            default: return text.substring(0, at) + sign + text.substring(at);
        }
    }

    private static String blanks(Random random) {
        return random.nextInt(5) == 0 ? " ".repeat(1 + random.nextInt(3)) : "";
    }

    private static String number(Random random, int least, int most) {
        int n = random.nextInt(60) == 0 ? most + 1 : random.nextInt(60) == 0 ? Math.max(0, least - 1)
                : random.nextInt(4) == 0 ? (random.nextBoolean() ? least : most) : least + random.nextInt(most - least + 1);
        return (random.nextInt(15) == 0 ? " 00" : " ") + n + blanks(random);
    }

    private static String abbey(Random random) {
        StringBuilder text = new StringBuilder();
        int house = random.nextInt(4);
        if (house > 0) {
            text.append("village 3;cell 2;village 9;cell 0;monk 5;monk 1;cell 1;cell 5;monk 9;heir 30;heir 70;village 6;");
        }
        int clauses = random.nextInt(30) == 0 ? 58 + random.nextInt(5) : random.nextInt(house > 0 ? 15 : 26);
        for (int i = 0; i < clauses && text.length() < 560; i++) {
            text.append(blanks(random));
            switch (random.nextInt(11)) {
                case 0: text.append("owe").append(number(random, 0, random.nextBoolean() ? 200 : 9999)); break;
                case 1: text.append("rate").append(number(random, 0, 20)); break;
                case 2: text.append("chest").append(number(random, 0, 999)); break;
                case 3: text.append("harvest").append(number(random, 0, 11)).append(number(random, 0, 99)); break;
                case 4: text.append("village").append(number(random, 1, 20)); break;
                case 5: case 6: case 7: text.append("cell").append(number(random, 0, 9)); break;
                case 8: text.append("heir").append(number(random, 1, 99)); break;
                default: text.append(text.indexOf("cell") < 0 ? "cell" + number(random, 0, 9)
                        : "monk" + number(random, 0, 40)); break;
            }
            text.append(';').append(blanks(random));
        }
        return text.toString();
    }

    private static String law(Random random) {
        String text = random.nextInt(8) == 0 ? "asks / 3 + quiet * 9 + storm * 60 - paid"
                : random.nextInt(12) == 0 ? "(".repeat(random.nextInt(9)) + "least[most[asks,1],night]" + ")".repeat(random.nextInt(9))
                : Sum.draw(random, new int[7], 1).text;
        return text.length() <= 150 ? text : law(random);
    }

    private static String work(Random random) {
        StringBuilder text = new StringBuilder();
        for (int i = random.nextInt(9); i > 0 && text.length() < 115; i--) {
            text.append(blanks(random)).append(WHOLE_STEPS[random.nextInt(WHOLE_STEPS.length)]).append(blanks(random)).append(';');
        }
        return random.nextInt(40) == 0 ? "again 30[night;];".repeat(8) : text.toString();
    }

    private static String book(Random random) {
        StringBuilder text = new StringBuilder();
        for (int i = random.nextInt(random.nextInt(6) == 0 ? 11 : 3); i > 0; i--) {
            text.append(random.nextInt(61)).append(number(random, 0, random.nextInt(3) == 0 ? 999 : 12)).append(';');
        }
        return text.toString();
    }

    // ---- other calls ----

    private static int around(Random random, int least, int most) {
        switch (random.nextInt(80)) {
            case 0: return least - 1;
            case 1: return most + 1;
            case 2: return random.nextInt();
            case 3: case 4: case 5: case 6: case 7: case 8: return most;
            case 9: case 10: case 11: case 12: case 13: return least;
            default: return least + random.nextInt(Math.max(1, most - least + 1));
        }
    }

    private static void fits(Random random, OwedBell bell, Model model, int[] called) {
        int what = random.nextInt(4);
        same("fits " + what, called, () -> bell.fits(what), () -> model.fits(what));
        same("count " + what / 2, called, () -> bell.count(what / 2), () -> model.count(what / 2));
    }

    private static void one(Random random, OwedBell bell, Model model, int[] called) {
        int kind = random.nextInt(36);
        if (kind < 18) {
            told(random, kind, bell, model, called);
        } else {
            asked(random, kind, bell, model, called);
        }
    }

    private static void told(Random random, int kind, OwedBell bell, Model model, int[] called) {
        int a = around(random, 0, 3);
        int b = around(random, 0, 3);
        int what = around(random, 0, 12);
        int half = around(random, 0, 1);
        int s = around(random, 0, random.nextInt(3) == 0 ? 999 : 60);
        switch (kind) {
            case 0: case 1: case 2: same("told " + what, called, () -> bell.told(what), () -> model.told(what)); break;
            case 3: same("many " + b, called, () -> bell.many(b), () -> model.many(b)); break;
            case 4: case 5: same("monk " + a + " " + b, called, () -> bell.monk(a, b), () -> model.monk(a, b)); break;
            case 6: same("village " + b + " " + half, called, () -> bell.village(b, half), () -> model.village(b, half)); break;
            case 7: same("cell " + a, called, () -> bell.cell(a), () -> model.cell(a)); break;
            case 8: same("heir " + b, called, () -> bell.heir(b), () -> model.heir(b)); break;
            case 9: same("strokes", called, bell::strokes, model::strokes); break;
            case 10: same("noise " + a + " " + s, called, () -> bell.noise(a, s), () -> model.noise(a, s)); break;
            case 11: same("undo", called, bell::undo, model::undo); break;
            case 12: same("image", called, bell::image, model::image); break;
            case 13: same("restore", called, bell::restore, model::restore); break;
            case 14: same("status " + b, called, () -> bell.status(b), () -> model.status(b)); break;
            case 15: same("kept " + b, called, () -> bell.kept(b), () -> model.kept(b)); break;
            case 16: same("fault", called, bell::fault, model::fault); break;
            default: would(random, bell, model, called); break;
        }
    }

    private static void would(Random random, OwedBell bell, Model model, int[] called) {
        int[] most = {99999, 999, 999, 999, 1, 1, 9999};
        int[] a = new int[7];
        for (int i = 0; i < 7; i++) {
            a[i] = random.nextInt(7) == 0 ? around(random, 0, most[i]) : random.nextInt(most[i] + 1);
        }
        same("would " + java.util.Arrays.toString(a), called,
                () -> bell.would(a[0], a[1], a[2], a[3], a[4], a[5], a[6]), () -> model.would(a));
    }

    private static void asked(Random random, int kind, OwedBell bell, Model model, int[] called) {
        int n = around(random, 0, 60);
        int b = around(random, 0, random.nextBoolean() ? 999 : 30);
        int what = around(random, 0, kind == 19 || kind == 22 || kind == 23 ? 1 : kind == 18 || kind == 34 ? 3 : 2);
        int m = around(random, 0, kind < 26 ? 8 : kind == 35 ? 20 : 2);
        int nights = kind < 34 ? around(random, 0, 5) : around(random, 1, 96);
        int p = around(random, 0, 16);
        int q = around(random, 0, 16);
        int k = around(random, 0, 99);
        int seed = random.nextInt();
        switch (kind) {
            case 18: same("ahead " + n + " " + what, called, () -> bell.ahead(n, what), () -> model.ahead(n, what)); break;
            case 19: same("loudest " + what, called, () -> bell.loudest(what), () -> model.loudest(what)); break;
            case 20: case 21: same("hush " + b, called, () -> bell.hush(b), () -> model.hush(b)); break;
            case 22: case 23: {
                int bits = around(random, 0, (1 << Math.max(0, Math.min(5, nights))) - 1);
                same("plan " + nights + " " + b + " " + bits + " " + what, called,
                        () -> bell.plan(nights, b, bits, what), () -> model.plan(nights, b, bits, what));
                break;
            }
            case 24: {
                int t = around(random, 0, m + 1);
                same("mistaken " + m + " " + p + " " + q + " " + t, called,
                        () -> bell.mistaken(m, p, q, t, n & 1, b & 1), () -> model.mistaken(m, p, q, t, n & 1, b & 1));
                break;
            }
            case 25: same("best " + m + " " + p + " " + q, called, () -> bell.best(m, p, q), () -> model.best(m, p, q)); break;
            case 26: same("beds " + b, called, () -> bell.beds(b), () -> model.beds(b)); break;
            case 27: same("bed " + m + " " + b, called, () -> bell.bed(m, b), () -> model.bed(m, b)); break;
            case 28: same("watch " + m + " " + n, called, () -> bell.watch(m, n), () -> model.watch(m, n)); break;
            case 29: {
                int tens = around(random, 0, 9);
                same("heirs " + tens + " " + what, called, () -> bell.heirs(tens, what), () -> model.heirs(tens, what));
                break;
            }
            case 30: same("sleepers " + b, called, () -> bell.sleepers(b), () -> model.sleepers(b)); break;
            case 31: same("grows " + b * 9, called, () -> bell.grows(b * 9), () -> model.grows(b * 9)); break;
            case 32: same("bears " + m + " " + what, called, () -> bell.bears(m, what), () -> model.bears(m, what)); break;
            case 33: same("level " + n, called, () -> bell.level(n), () -> model.level(n)); break;
            case 34: same("years " + seed + " " + nights + " " + q + " " + p + " " + k + " " + what, called,
                    () -> bell.years(seed, nights, q, p, k, what), () -> model.years(seed, nights, q, p, k, what)); break;
            default: same("span " + seed + " " + m + " " + nights + " " + q + " " + p + " " + k + " " + what, called,
                    () -> bell.span(seed, m, nights, q, p, k, what), () -> model.span(seed, m, nights, q, p, k, what)); break;
        }
    }
}
