import java.nio.charset.StandardCharsets;
import java.util.Arrays;
import java.util.function.IntUnaryOperator;
import java.util.function.LongSupplier;

/** Counts what is not as it is due, and ends the program with 1 if there was something. */
final class Check {
    private final String name;
    private int asked = 0;
    private int wrong = 0;

    Check(String name) {
        this.name = name;
    }

    void same(String what, long got, long due) {
        asked++;
        if (got != due) {
            fail(what + " answered " + got + ", due is " + due);
        }
    }

    void same(String what, String got, String due) {
        asked++;
        if (!got.equals(due)) {
            fail(what + " answered " + got + ", due is " + due);
        }
    }

    void isTrue(String what, boolean holds) {
        asked++;
        if (!holds) {
            fail(what + " does not hold");
        }
    }

    void outOfBounds(String what, LongSupplier call) {
        same(what, outcome(call), "IndexOutOfBoundsException");
    }

    void illegalArgument(String what, LongSupplier call) {
        same(what, outcome(call), "IllegalArgumentException");
    }

    void illegalState(String what, LongSupplier call) {
        same(what, outcome(call), "IllegalStateException");
    }

    /** A new object is told a list, and answers an error and its place. */
    void list(String text, int error, int place) {
        QuillBoats x = new QuillBoats();
        same("teach() of " + text, tell(x, text), error);
        same("errorAt() of " + text, x.errorAt(), place);
    }

    void fine(String text) {
        list(text, 0, -1);
    }

    /** Several numbers that a call answers, from its last argument 0 on. */
    void row(String what, IntUnaryOperator call, int... due) {
        for (int i = 0; i < due.length; i++) {
            same(what + " " + i, call.applyAsInt(i), due[i]);
        }
    }

    private void fail(String text) {
        wrong++;
        if (wrong <= 50) {
            System.out.println(name + ": " + text);
        }
    }

    int wrong() {
        return wrong;
    }

    void end() {
        System.out.println(name + ": " + asked + " answers looked at, " + wrong + " not as due");
        if (wrong != 0) {
            System.exit(1);
        }
    }

    /** The number that a call answers, or the plain name of what it throws: a subclass has another name. */
    static String outcome(LongSupplier call) {
        try {
            return String.valueOf(call.getAsLong());
        } catch (RuntimeException thrown) {
            return thrown.getClass().getSimpleName();
        }
    }

    /** Puts the text on the tape, which has to be empty. */
    static void write(QuillBoats boats, String text) {
        byte[] bytes = text.getBytes(StandardCharsets.ISO_8859_1);
        byte[] whole = Arrays.copyOf(bytes, (bytes.length + 19) / 20 * 20);
        for (int i = 0; i < whole.length; i += 20) {
            boats.feed(four(whole, i), four(whole, i + 4), four(whole, i + 8), four(whole, i + 12),
                    four(whole, i + 16));
        }
        boats.trim(bytes.length);
    }

    private static int four(byte[] bytes, int at) {
        return (bytes[at] & 255) << 24 | (bytes[at + 1] & 255) << 16 | (bytes[at + 2] & 255) << 8
                | bytes[at + 3] & 255;
    }

    static int tell(QuillBoats boats, String text) {
        write(boats, text);
        return boats.teach();
    }

    /** A new object that was told the text, which has to be without errors. */
    static QuillBoats told(String text) {
        QuillBoats boats = new QuillBoats();
        int error = tell(boats, text);
        if (error != 0) {
            throw new AssertionError("error " + error + " at " + boats.errorAt() + " of: " + text);
        }
        return boats;
    }
}
