import java.io.IOException;
import java.nio.file.Files;
import java.nio.file.Path;
import java.util.Set;
import java.util.TreeSet;

/**
 * What the tests of boundary cases share: which sentence of which promise is held, calls at the ends of a range and
 * behind them, and all that can be seen of an object.
 */
final class Edge {
    interface Call {
        long ask(OwedBell bell, int... a);
    }

    private interface Read {
        int of(OwedBell bell, String text);
    }

    static final int CANNOT = 1;
    static final int NUMBER = 2;
    static final int MANY = 3;
    /** Signs that stand in no text, those next to blanks, digits and small letters among them. */
    static final String SIGNS_AROUND = "\u0000\t\n\u001f!/:@A`{\u007f\u00a0\u00ff";
    static final Class<?> NONE_SUCH = java.util.NoSuchElementException.class;
    static final Class<?> BAD = IllegalArgumentException.class;

    private final Check check;
    private final String document;
    private final Set<Integer> promises = new TreeSet<>();
    private String held = "";

    Edge(String test) throws IOException {
        check = new Check(test);
        document = Files.readString(Path.of("../shared/DOC.md")).replaceAll("\\s+", " ");
    }

    /** All that follows holds this sentence; it has to stand under the promise, or ahead of the promises. */
    void holds(int promise, String sentence) {
        promises.add(promise);
        held = "promise " + promise + ", \"" + sentence + "\": ";
        int from = document.indexOf("## Promise " + promise + ":");
        int to = document.indexOf("## ", from + 1);
        boolean stands = document.substring(from, to).contains(sentence)
                || document.substring(0, document.indexOf("## Promise 1:")).contains(sentence);
        check.isTrue(held + "stands in the document", stands);
    }

    void due(String what, long got, long want) {
        check.due(held + what, got, want);
    }

    void isTrue(String what, boolean so) {
        check.isTrue(held + what, so);
    }

    void same(String what, String got, String want) {
        if (!got.equals(want)) {
            System.out.println(got + "\n" + want);
        }
        check.isTrue(held + what, got.equals(want));
    }

    /** Ends the test; each of these promises must have had a sentence of its own. */
    void end(int first, int last) {
        for (int i = first; i <= last; i++) {
            check.isTrue("promise " + i + " has a sentence", promises.contains(i));
        }
        check.end();
    }

    // ---- texts ----

    /** The text has a FAULT of this kind at this place; all but the TAPE stays as it was. */
    void abbeyFault(String text, int kind, int place) {
        fault("abbey", Check::abbey, text, kind, place);
    }

    void lawFault(String text, int kind, int place) {
        fault("law", Check::law, text, kind, place);
    }

    void workFault(String text, int kind, int place) {
        fault("work", Check::work, text, kind, place);
    }

    void bookFault(String text, int kind, int place) {
        fault("book", Check::book, text, kind, place);
    }

    private void fault(String name, Read read, String text, int kind, int place) {
        OwedBell bell = full();
        String before = look(bell);
        due(name + " \"" + text + "\"", read.of(bell, text), kind - 10);
        due("place in \"" + text + "\"", bell.fault(), place);
        stays(text, bell, before);
    }

    private void stays(String text, OwedBell bell, String before) {
        due("the TAPE is empty behind \"" + text + "\"", bell.kept(1), 0);
        due("a FAULT is no refusal: \"" + text + "\"", bell.status(0) + bell.status(1), 0);
        same("all else stays behind \"" + text + "\"", look(bell), before);
        same("what can be undone stays behind \"" + text + "\"", unwind(bell), unwind(full()));
    }

    /** Of a text's call n may be 0 to the TAPE's bytes and to most; else it is refused, and the TAPE stays. */
    void textLength(String name, Edge.Call call, int most) {
        for (int bytes : new int[] {0, 20, 100, 140, 160, 600}) {
            OwedBell bell = full();
            Check.feed(bell, "owe 7;cell 0;" + Check.times(Math.max(bytes - 13, 0), "\u0001"));
            if (bytes == 0) {
                bell.law(0);
            }
            int fault = bell.fault();
            String before = look(bell);
            for (int n : new int[] {-1, Integer.MIN_VALUE, bytes + 1, Math.min(bytes, most) + 1, most + 1, Integer.MAX_VALUE}) {
                if (n < 0 || n > bytes || n > most) {
                    refused(name + " " + n + " of " + bytes, call, bell, new int[] {n}, BAD);
                }
            }
            due(name + ": the TAPE stays", bell.kept(1), bytes);
            due(name + ": the FAULT is the latest text's", bell.fault(), fault);
            same(name + ": nothing else is changed", look(bell), before);
            if (bytes > 0) {
                due(name + ": the bytes are the same", bell.abbey(13), 0);
                due(name + ": their owe", bell.told(0), 7);
            }
        }
        for (int bytes : new int[] {20, most / 20 * 20, Math.min(most / 20 * 20 + 20, 600)}) {
            for (int n : new int[] {0, 1, bytes - 1, bytes, most - 1, most}) {
                if (n <= bytes && n <= most) {
                    OwedBell bell = new OwedBell();
                    Check.feed(bell, Check.times(bytes, " "));
                    call.ask(bell, n);
                    due(name + " of " + n + " is read", bell.status(1) + bell.kept(1), 0);
                }
            }
        }
    }

    /** The word with the letter at this place put one on. */
    static String otherLetter(String word, int at) {
        return word.substring(0, at) + (char) (word.charAt(at) + 1) + word.substring(at + 1);
    }

    // ---- ranges ----

    /**
     * Argument i of a call may be least to most, the others being fine: it is taken at both ends and one within,
     * and what is one behind an end, or at the end of all numbers, is refused, counted, and changes nothing.
     */
    void range(String name, Call call, int[] fine, int i, long least, long most, Class<?> kind) {
        OwedBell taken = ready();
        for (long value : new long[] {least, Math.min(least + 1, most), Math.max(most - 1, least), most}) {
            long none = taken.status(0);
            long bad = taken.status(1);
            ask(name + " " + value, call, taken, with(fine, i, (int) value), null);
            due(name + " " + value + " is no refusal", taken.status(0) + taken.status(1), none + bad);
        }
        OwedBell bell = ready();
        String before = look(bell);
        for (long value : new long[] {least - 1, most + 1, Integer.MIN_VALUE, Integer.MAX_VALUE}) {
            if ((value < least || value > most) && value == (int) value) {
                refused(name + " " + value, call, bell, with(fine, i, (int) value), kind);
            }
        }
        same(name + ": nothing else is changed", look(bell), before);
        due(name + ": the TAPE stays", bell.kept(1), 20);
        due(name + ": its bytes stay", bell.law(7), 1);
        due(name + ": the LAW on it", bell.strokes(), bell.told(1) + 5);
        same(name + ": what can be undone stays", unwind(bell), unwind(full()));
    }

    /** A call is refused by an exception of exactly this kind, and counted as one of it. */
    void refused(String name, Call call, OwedBell bell, int[] a, Class<?> kind) {
        int none = bell.status(0);
        int bad = bell.status(1);
        ask(name, call, bell, a, kind);
        due(name + ": refusals by NoSuchElementException", bell.status(0), none + (kind == NONE_SUCH ? 1 : 0));
        due(name + ": refusals by IllegalArgumentException", bell.status(1), bad + (kind == BAD ? 1 : 0));
    }

    private void ask(String name, Call call, OwedBell bell, int[] a, Class<?> kind) {
        try {
            long got = call.ask(bell, a);
            isTrue(name + " answered " + got + ", due is " + kind, kind == null);
        } catch (RuntimeException e) {
            isTrue(name + " threw " + e + ", due is " + kind, e.getClass() == kind);
        }
    }

    private static int[] with(int[] fine, int i, int value) {
        int[] a = fine.clone();
        a[i] = value;
        return a;
    }

    // ---- objects ----

    /** An object of which nothing is empty: 2 VILLAGES, 3 CELLS, 2 MONKS, 4 HEIRS, LAW, BOOK, 3 WORKS, 2 IMAGES. */
    static OwedBell full() {
        OwedBell bell = Check.told("owe 300;rate 9;chest 80;harvest 1 7;village 3;village 20;cell 2;cell 0;cell 1;"
                + "monk 9;monk 30;heir 40;heir 5;heir 99;heir 1;", "asks/7+paid%5+quiet+chest%3");
        Check.book(bell, "0 44;5 43;");
        Check.work(bell, "receipt 60;again 7[night;];pay 2;");
        bell.image();
        Check.work(bell, "alms 0;night;swap 0 1;pay 12;");
        bell.image();
        Check.work(bell, "receipt 33;wax;alms 1;alms 1;pay 6;");
        return bell;
    }

    /** The same with the LAW "chest+5" on the TAPE. */
    static OwedBell ready() {
        OwedBell bell = full();
        Check.feed(bell, "chest+5");
        return bell;
    }

    /** All that can be seen of an object and that no call changes, but for the TAPE, the FAULT's place and status. */
    static String look(OwedBell bell) {
        StringBuilder seen = new StringBuilder("told");
        for (int what = 0; what <= 12; what++) {
            seen.append(' ').append(bell.told(what));
        }
        for (int what = 0; what < 4; what++) {
            seen.append(what == 0 ? " many " : " ").append(bell.many(what));
        }
        for (int i = 0; i < bell.many(0); i++) {
            seen.append(" village ").append(bell.village(i, 0)).append(' ').append(bell.village(i, 1));
        }
        for (int i = 0; i < bell.many(1); i++) {
            seen.append(" cell ").append(bell.cell(i));
        }
        for (int i = 0; i < bell.many(2); i++) {
            seen.append(" monk");
            for (int what = 0; what < 4; what++) {
                seen.append(' ').append(bell.monk(i, what));
            }
        }
        for (int i = 0; i < bell.many(3); i++) {
            seen.append(" heir ").append(bell.heir(i));
        }
        seen.append(" strokes ").append(bell.strokes()).append(' ').append(bell.would(777, 5, 30, 2, 1, 1, 41));
        for (int what = 0; what < 4; what++) {
            seen.append(what == 0 ? " ahead " : " ").append(bell.ahead(30, what));
        }
        return seen.append(" kept ").append(bell.kept(0)).append(' ').append(bell.kept(2)).toString();
    }

    /** What comes to light when all is undone, then each IMAGE restored and all of it undone: nothing is left then. */
    static String unwind(OwedBell bell) {
        StringBuilder seen = new StringBuilder();
        for (int image = 0; image < 4; image++) {
            for (int work = 0; work < 17; work++) {
                for (int what = 0; what <= 9; what += 3) {
                    seen.append(bell.told(what)).append(' ');
                }
                seen.append(bell.told(1)).append(' ');
                int left = bell.undo();
                seen.append("undo ").append(left).append("; ");
                if (left < 0) {
                    break;
                }
            }
            seen.append("restore ").append(bell.restore()).append("; ");
        }
        return seen.toString();
    }
}
