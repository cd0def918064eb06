/** What the tests share: texts put on the TAPE, answers compared, exceptions looked at. */
final class Check {
    interface Call {
        long ask();
    }

    private final String test;
    private int asked;
    private int wrong;

    Check(String test) {
        this.test = test;
    }

    void due(String call, long got, long want) {
        asked++;
        if (got != want) {
            wrong++;
            System.out.println(test + ": " + call + " answered " + got + ", due is " + want);
        }
    }

    void isTrue(String what, boolean so) {
        due(what, so ? 1 : 0, 1);
    }

    void none(String call, Call c) {
        refused(call, c, java.util.NoSuchElementException.class);
    }

    void bad(String call, Call c) {
        refused(call, c, IllegalArgumentException.class);
    }

    private void refused(String call, Call c, Class<?> kind) {
        asked++;
        try {
            long got = c.ask();
            wrong++;
            System.out.println(test + ": " + call + " answered " + got + ", due is " + kind.getName());
        } catch (RuntimeException e) {
            if (e.getClass() != kind) {
                wrong++;
                System.out.println(test + ": " + call + " threw " + e + ", due is " + kind.getName());
            }
        }
    }

    void end() {
        System.out.println(test + ": " + asked + " asked, " + wrong + " wrong");
        if (wrong > 0) {
            System.exit(1);
        }
    }

    /** Puts a text on the TAPE, filled up with zeros to twenties; answers how long the text is. */
    static int feed(OwedBell bell, String text) {
        for (int i = 0; i < text.length(); i += 20) {
            int[] numbers = new int[5];
            for (int k = 0; k < 20; k++) {
                int sign = i + k < text.length() ? text.charAt(i + k) : 0;
                numbers[k / 4] |= sign << (24 - 8 * (k % 4));
            }
            bell.feed(numbers[0], numbers[1], numbers[2], numbers[3], numbers[4]);
        }
        return text.length();
    }

    static int abbey(OwedBell bell, String text) {
        return bell.abbey(feed(bell, text));
    }

    static int law(OwedBell bell, String text) {
        return bell.law(feed(bell, text));
    }

    static int work(OwedBell bell, String text) {
        return bell.work(feed(bell, text));
    }

    static int book(OwedBell bell, String text) {
        return bell.book(feed(bell, text));
    }

    static OwedBell told(String abbey) {
        OwedBell bell = new OwedBell();
        if (abbey(bell, abbey) < 0) {
            throw new IllegalStateException("a test's ABBEY has a FAULT: " + abbey);
        }
        return bell;
    }

    static OwedBell told(String abbey, String law) {
        OwedBell bell = told(abbey);
        if (law(bell, law) < 0) {
            throw new IllegalStateException("a test's LAW has a FAULT: " + law);
        }
        return bell;
    }

    /** CLAUSES by which so many crowns come in each NIGHT. */
    static String harvests(int crowns) {
        StringBuilder text = new StringBuilder();
        for (int i = 0; i < 12; i++) {
            text.append("harvest ").append(i).append(' ').append(crowns).append(';');
        }
        return text.toString();
    }

    static String times(int n, String text) {
        return text.repeat(n);
    }
}
