import java.util.Random;

/**
 * What is asked, against what comes out when it is really done, on objects made anew, and against trying all ways
 * one by one. The scenes are drawn by fixed seeds.
 */
public final class OracleTest {
    private static final Check check = new Check("OracleTest");

    public static void main(String[] args) {
        for (int seed = 1; seed <= 120; seed++) {
            Random random = new Random(seed);
            Scene scene = new Scene(random);
            nights(scene, random);
            hush(scene, random);
            plan(scene, random);
            beds(scene, random);
            watch(scene, random);
            heirs(scene, random);
        }
        for (int seed = 1; seed <= 12; seed++) {
            fits(new Scene(new Random(seed)), new Random(seed));
        }
        laws();
        receipts();
        check.end();
    }

    private static void nights(Scene scene, Random random) {
        int[] struck = new int[121];
        int[] owed = new int[121];
        int[] woke = new int[121];
        int[] strokes = new int[121];
        for (int k = 0; k <= 120; k++) {
            OwedBell bell = scene.makeAfter(k);
            struck[k] = bell.told(8);
            owed[k] = bell.told(0);
            woke[k] = bell.told(9);
            strokes[k] = bell.strokes();
        }
        OwedBell bell = scene.make();
        int silent = 0;
        int loudest = 0;
        for (int n = 0; n <= 60; n++) {
            check.due(scene.name() + "ahead 0 of " + n, bell.ahead(n, 0), struck[n] - struck[0]);
            check.due(scene.name() + "ahead 1 of " + n, bell.ahead(n, 1), owed[n]);
            check.due(scene.name() + "ahead 2 of " + n, bell.ahead(n, 2), woke[n] - woke[0]);
            check.due(scene.name() + "ahead 3 of " + n, bell.ahead(n, 3), silent);
            silent += strokes[n] == 0 ? 1 : 0;
            loudest = n < 60 && strokes[n] > strokes[loudest] ? n : loudest;
        }
        check.due(scene.name() + "loudest", bell.loudest(0), loudest);
        check.due(scene.name() + "loudest", bell.loudest(1), strokes[loudest]);
        for (int x : new int[] {owed[0], owed[0] + 1, owed[60], owed[60] + 1, owed[120], owed[120] + 1, random.nextInt(3000)}) {
            int due = -1;
            for (int k = 120; k >= 0; k--) {
                due = owed[k] >= x ? k : due;
            }
            check.due(scene.name() + "grows " + x, bell.grows(x), due);
        }
    }

    private static void hush(Scene scene, Random random) {
        OwedBell bell = scene.make();
        int now = bell.strokes();
        for (int b : new int[] {now, now * 3 / 4, now / 2, 0, random.nextInt(1000)}) {
            int due = now <= b ? 0 : -1;
            OwedBell paying = scene.make();
            for (int n = 1; n <= 999 && due < 0; n++) {
                if (n % 100 == 0) {
                    paying = scene.make();
                }
                if (Check.work(paying, "pay " + n + ";") == 0) {
                    break;
                }
                due = paying.strokes() <= b ? n : -1;
                paying.undo();
            }
            check.due(scene.name() + "hush " + b, bell.hush(b), due);
        }
    }

    private static void plan(Scene scene, Random random) {
        int n = 1 + random.nextInt(3);
        int bits = random.nextInt(1 << n);
        int b = random.nextInt(2) * random.nextInt(60) + scene.make().strokes() / (1 + random.nextInt(3));
        b = Math.min(b, 999);
        int least = -1;
        int digits = -1;
        int[] tens = {0, 1, 2, 4};
        for (int row = 0; row < Math.pow(4, n); row++) {
            OwedBell bell = scene.make();
            boolean fine = true;
            int all = 0;
            int told = 0;
            for (int i = 0; i < n; i++) {
                int ten = tens[row / (int) Math.pow(4, n - 1 - i) % 4];
                fine = fine && (ten == 0 || Check.work(bell, "pay " + 10 * ten + ";") == 1);
                fine = fine && ((bits >> i & 1) == 0 || bell.strokes() <= b);
                Check.work(bell, "night;");
                all += 10 * ten;
                told = 10 * told + ten;
            }
            if (fine && (least < 0 || all < least)) {
                least = all;
                digits = told;
            }
        }
        String name = scene.name() + "plan " + n + " " + b + " " + bits;
        OwedBell bell = scene.make();
        check.due(name, bell.plan(n, b, bits, 0), least);
        check.due(name, bell.plan(n, b, bits, 1), digits);
        check.due(name + ": nothing is paid", bell.told(4), scene.make().told(4));
    }

    private static void beds(Scene scene, Random random) {
        OwedBell bell = scene.make();
        for (int i = 0; i < 3; i++) {
            int s = random.nextInt(i == 0 ? 50 : 300);
            int[] best = new int[9];
            best[8] = -1;
            tryBeds(light(bell), noise(bell, s), 0, 0, 0, new int[9], best);
            check.due(scene.name() + "beds " + s, bell.beds(s), best[8]);
            for (int m = 0; m < bell.many(2); m++) {
                check.due(scene.name() + "bed " + m + " " + s, bell.bed(m, s), best[m]);
            }
        }
    }

    // what is told once is kept: an object is asked 512 times at most

    private static int[] light(OwedBell bell) {
        int[] light = new int[bell.many(2)];
        for (int m = 0; m < light.length; m++) {
            light[m] = bell.monk(m, 0);
        }
        return light;
    }

    private static int[] noise(OwedBell bell, int s) {
        int[] noise = new int[bell.many(1)];
        for (int c = 0; c < noise.length; c++) {
            noise[c] = bell.noise(c, s);
        }
        return noise;
    }

    private static int[] claims(OwedBell bell) {
        int[] claims = new int[bell.many(3)];
        for (int h = 0; h < claims.length; h++) {
            claims[h] = bell.heir(h);
        }
        return claims;
    }

    private static void tryBeds(int[] light, int[] noise, int monk, int taken, int sleep, int[] cells, int[] best) {
        if (monk == light.length) {
            if (sleep > best[8]) {
                System.arraycopy(cells, 0, best, 0, 8);
                best[8] = sleep;
            }
            return;
        }
        for (int c = 0; c < noise.length; c++) {
            if ((taken >> c & 1) == 0) {
                cells[monk] = c;
                tryBeds(light, noise, monk + 1, taken | 1 << c, sleep + (noise[c] <= light[monk] ? 1 : 0), cells, best);
            }
        }
    }

    private static void watch(Scene scene, Random random) {
        OwedBell bell = scene.make();
        int monks = bell.many(2);
        int n = random.nextInt(61);
        int[] watched = new int[8];
        for (int night = 0; night < n && monks > 0; night++) {
            int chosen = 0;
            for (int m = 1; m < monks; m++) {
                if (watched[m] < watched[chosen]
                        || watched[m] == watched[chosen] && bell.monk(m, 0) > bell.monk(chosen, 0)) {
                    chosen = m;
                }
            }
            watched[chosen]++;
        }
        for (int m = 0; m < monks; m++) {
            check.due(scene.name() + "watch " + m + " " + n, bell.watch(m, n), watched[m]);
        }
    }

    private static int has(int owed, int[] claims, int[] bids, int i) {
        int all = 0;
        for (int bid : bids) {
            all += 10 * bid;
        }
        return all > owed ? 0 : Math.min(10 * bids[i], claims[i]);
    }

    private static void heirs(Scene scene, Random random) {
        OwedBell bell = scene.make();
        int many = bell.many(3);
        int owed = bell.told(0);
        int[] claims = claims(bell);
        int k = random.nextInt(many == 4 ? 5 : 10);
        int rests = 0;
        int digits = -1;
        int together = 0;
        int[] bids = new int[many];
        for (int way = 0; way < Math.pow(k + 1, many); way++) {
            int rest = way;
            int told = 0;
            for (int i = many - 1; i >= 0; i--) {
                bids[i] = rest % (k + 1);
                rest /= k + 1;
            }
            boolean stays = true;
            int all = 0;
            for (int i = 0; i < many; i++) {
                int has = has(owed, claims, bids, i);
                int own = bids[i];
                all += has;
                told = 10 * told + own;
                for (int other = 0; other <= k; other++) {
                    bids[i] = other;
                    stays = stays && has(owed, claims, bids, i) <= has;
                }
                bids[i] = own;
            }
            if (stays) {
                together = rests == 0 ? all : together;
                digits = rests == 0 ? told : digits;
                rests++;
            }
        }
        check.due(scene.name() + "heirs 0 by " + k, bell.heirs(k, 0), rests);
        check.due(scene.name() + "heirs 1 by " + k, bell.heirs(k, 1), digits);
        check.due(scene.name() + "heirs 2 by " + k, bell.heirs(k, 2), together);
    }

    private static void fits(Scene scene, Random random) {
        int[][] heard = new int[4200][60];
        for (int pair = 0; pair < 4200; pair++) {
            OwedBell bell = Check.told(scene.abbey + "owe " + pair / 21 + ";rate " + pair % 21 + ";", scene.law);
            int before = 0;
            for (int night = 0; night < 60; night++) {
                int all = bell.ahead(night + 1, 0);
                heard[pair][night] = all - before;
                before = all;
            }
        }
        OwedBell bell = scene.make();
        for (int lines = 0; lines <= 8; lines += 1 + random.nextInt(3)) {
            int[] counted = new int[60];
            java.util.Arrays.fill(counted, -1);
            int truth = random.nextInt(4200);
            StringBuilder text = new StringBuilder();
            for (int i = 0; i < lines; i++) {
                int night = random.nextInt(60);
                if (counted[night] < 0) {
                    counted[night] = heard[truth][night];
                    text.append(night).append(' ').append(counted[night]).append(';');
                }
            }
            Check.book(bell, text.toString());
            fitsOfOne(scene.name() + text, bell, heard, counted);
        }
    }

    private static void fitsOfOne(String name, OwedBell bell, int[][] heard, int[] counted) {
        int many = 0;
        int first = -1;
        int owedMany = 0;
        int lastOwed = -1;
        int[][] alike = new int[60][1000];
        for (int pair = 0; pair < 4200; pair++) {
            boolean right = true;
            for (int night = 0; night < 60; night++) {
                right = right && (counted[night] < 0 || counted[night] == heard[pair][night]);
            }
            if (right) {
                many++;
                first = first < 0 ? pair : first;
                owedMany += pair / 21 != lastOwed ? 1 : 0;
                lastOwed = pair / 21;
                for (int night = 0; night < 60; night++) {
                    alike[night][heard[pair][night]]++;
                }
            }
        }
        int chosen = -1;
        int least = -1;
        for (int night = 0; night < 60; night++) {
            int worst = 0;
            for (int s = 0; s < 1000; s++) {
                worst = Math.max(worst, alike[night][s]);
            }
            if (counted[night] < 0 && (chosen < 0 || worst < least)) {
                chosen = night;
                least = worst;
            }
        }
        check.due(name + " count 1", bell.count(1), least);
        check.due(name + " fits 0", bell.fits(0), many);
        check.due(name + " fits 1", bell.fits(1), first < 0 ? -1 : first / 21);
        check.due(name + " fits 2", bell.fits(2), first < 0 ? -1 : first % 21);
        check.due(name + " fits 3", bell.fits(3), owedMany);
        check.due(name + " count 0", bell.count(0), chosen);
    }

    private static void laws() {
        int[] most = {100000, 1000, 1000, 1000, 2, 2, 10000};
        for (int seed = 0; seed < 4000; seed++) {
            Random random = new Random(seed);
            int[] a = new int[7];
            for (int i = 0; i < 7; i++) {
                a[i] = random.nextInt(random.nextBoolean() ? most[i] : Math.min(most[i], 9));
            }
            Sum sum = Sum.draw(random, a, 0);
            OwedBell bell = new OwedBell();
            if (sum.text.length() <= 150) {
                check.due("law " + sum.text, Check.law(bell, sum.text), 1);
                check.due(sum.text + " by " + java.util.Arrays.toString(a),
                        bell.would(a[0], a[1], a[2], a[3], a[4], a[5], a[6]), Math.max(0, Math.min(999, sum.value)));
            }
        }
    }

    /** Of 16 to the n ways of n strokes: how many have from or more, but fewer than to dull. */
    private static long ways(int n, int chance, int dull, int from, int to) {
        if (n == 0) {
            return dull >= from && dull < to ? 1 : 0;
        }
        return chance * ways(n - 1, chance, dull + 1, from, to) + (16 - chance) * ways(n - 1, chance, dull, from, to);
    }

    private static long divisor(long a, long b) {
        return b == 0 ? a : divisor(b, a % b);
    }

    private static void receipts() {
        Random random = new Random(5);
        for (int i = 0; i < 300; i++) {
            int n = random.nextInt(9);
            int p = random.nextInt(17);
            int q = random.nextInt(17);
            long below = (long) Math.pow(16, n);
            long least = -1;
            int best = -1;
            OwedBell bell = new OwedBell();
            for (int t = 0; t <= n + 1; t++) {
                long[] above = {ways(n, q, 0, 0, t), ways(n, p, 0, t, n + 1)};
                for (int what = 0; what < 2; what++) {
                    long common = divisor(above[what], below);
                    check.due("mistaken", bell.mistaken(n, p, q, t, what, 0), above[what] / common);
                    check.due("mistaken", bell.mistaken(n, p, q, t, what, 1), below / common);
                }
                if (least < 0 || above[0] + above[1] < least) {
                    least = above[0] + above[1];
                    best = t;
                }
            }
            check.due("best " + n + " " + p + " " + q, bell.best(n, p, q), best);
        }
    }
}
