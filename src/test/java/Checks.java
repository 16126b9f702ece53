import java.nio.charset.StandardCharsets;
import java.util.Arrays;
import java.util.NoSuchElementException;

/** What the tests share: due answers are compared, and the wrong ones told and counted. */
final class Checks {
    interface Call {
        int answer();
    }

    private final String name;
    private int asked = 0;
    private int wrong = 0;

    Checks(String name) {
        this.name = name;
    }

    void due(String call, long got, long want) {
        asked++;
        if (got != want) {
            wrong++;
            System.out.println(name + ": " + call + " answered " + got + ", due is " + want);
        }
    }

    void due(String call, boolean got, boolean want) {
        due(call, got ? 1 : 0, want ? 1 : 0);
    }

    void noSuch(String call, Call made) {
        thrown(call, NoSuchElementException.class, made);
    }

    void outOfBounds(String call, Call made) {
        thrown(call, IndexOutOfBoundsException.class, made);
    }

    /** A call that is refused gives its answer, and nothing is another than it was. */
    void refused(HorseFair fair, String call, int want, Call made) {
        String before = Picture.of(fair);
        due(call, made.answer(), want);
        same(call + " changes nothing", Picture.of(fair), before);
    }

    void refusedNoSuch(HorseFair fair, String call, Call made) {
        String before = Picture.of(fair);
        noSuch(call, made);
        same(call + " changes nothing", Picture.of(fair), before);
    }

    void refusedOutOfBounds(HorseFair fair, String call, Call made) {
        String before = Picture.of(fair);
        outOfBounds(call, made);
        same(call + " changes nothing", Picture.of(fair), before);
    }

    void same(String what, String got, String want) {
        asked++;
        if (!got.equals(want)) {
            wrong++;
            System.out.println(name + ": " + what + ": there is\n" + got + "\ndue is\n" + want);
        }
    }

    private void thrown(String call, Class<?> kind, Call made) {
        asked++;
        String got;
        try {
            got = String.valueOf(made.answer());
        } catch (RuntimeException e) {
            if (e.getClass() == kind) {
                return;
            }
            got = e.toString();
        }
        wrong++;
        System.out.println(name + ": " + call + " answered " + got + ", due is " + kind.getSimpleName());
    }

    /** Every answer of one kind, for what = 0, 1, .. */
    void dueAll(String call, java.util.function.IntUnaryOperator made, int... want) {
        for (int what = 0; what < want.length; what++) {
            due(call + " what " + what, made.applyAsInt(what), want[what]);
        }
    }

    void close() {
        System.out.println(name + ": " + asked + " answers, " + wrong + " wrong");
        if (wrong != 0) {
            System.exit(1);
        }
    }

    /** A fair with so many people, each with so many pence, and a horse of the first one. */
    static HorseFair fair(int people, int pence) {
        HorseFair x = new HorseFair();
        for (int p = 0; p < people; p++) {
            x.person(pence);
        }
        x.horse(0);
        return x;
    }

    static void pass(HorseFair fair, int days) {
        for (int d = 0; d < days; d++) {
            fair.next();
        }
    }

    /** Lays a text on an empty tape. */
    static void lay(HorseFair fair, String text) {
        lay(fair, text.getBytes(StandardCharsets.ISO_8859_1));
    }

    static void lay(HorseFair fair, byte[] text) {
        byte[] whole = Arrays.copyOf(text, (text.length + 19) / 20 * 20);
        for (int i = 0; i < whole.length; i += 20) {
            int had = fair.feed(word(whole, i), word(whole, i + 4), word(whole, i + 8), word(whole, i + 12),
                    word(whole, i + 16));
            if (had != i + 20) {
                throw new IllegalStateException("feed answered " + had);
            }
        }
        if (!fair.end(text.length)) {
            throw new IllegalStateException("end answered false");
        }
    }

    static int law(HorseFair fair, int land, String text) {
        lay(fair, text);
        return fair.law(land);
    }

    private static int word(byte[] b, int i) {
        return (b[i] & 255) << 24 | (b[i + 1] & 255) << 16 | (b[i + 2] & 255) << 8 | b[i + 3] & 255;
    }
}
