import java.nio.charset.StandardCharsets;
import java.util.NoSuchElementException;

/** What the tests share: feeding texts, comparing answers, counting those that are wrong. */
final class Check {
    interface Call {
        Object answer();
    }

    private static int wrong;

    private Check() {
    }

    /** Fills the buffer, which is empty, with this text and blanks behind it; answers the text's length. */
    static int feed(PaletteTubes x, String text) {
        byte[] bytes = text.getBytes(StandardCharsets.ISO_8859_1);
        int[] words = new int[5];
        for (int from = 0; from < bytes.length; from += 20) {
            for (int i = 0; i < 5; i++) {
                words[i] = 0;
                for (int j = 0; j < 4; j++) {
                    int at = from + 4 * i + j;
                    words[i] = words[i] << 8 | (at < bytes.length ? bytes[at] & 255 : 32);
                }
            }
            x.feed(words[0], words[1], words[2], words[3], words[4]);
        }
        return bytes.length;
    }

    static int load(PaletteTubes x, String text) {
        return x.load(feed(x, text));
    }

    static PaletteTubes loaded(String text) {
        PaletteTubes x = new PaletteTubes();
        if (load(x, text) < 0) {
            throw new AssertionError("the test's own text is wrong at " + x.errorPosition() + ": " + text);
        }
        return x;
    }

    static int define(PaletteTubes x, String text) {
        return x.define(feed(x, text));
    }

    static int mixed(PaletteTubes x, String text) {
        return x.mixed(feed(x, text));
    }

    static int query(PaletteTubes x, String text) {
        return x.query(feed(x, text));
    }

    static String format(PaletteTubes x, int mix) {
        int length = x.format(mix);
        return formatted(x, length);
    }

    static String formatted(PaletteTubes x, int length) {
        StringBuilder text = new StringBuilder();
        for (int i = 0; i < length; i++) {
            text.append((char) x.formattedByte(i));
        }
        return text.toString();
    }

    static void due(String what, Object got, Object want) {
        if (!want.equals(got)) {
            wrong++;
            System.out.println(what + ": answered " + got + ", due is " + want);
        }
    }

    /** That a call throws just this class, and answers nothing. */
    static void throwing(String what, Class<? extends RuntimeException> kind, Call call) {
        String got;
        try {
            got = String.valueOf(call.answer());
        } catch (RuntimeException e) {
            got = e.getClass().getName();
        }
        due(what, got, kind.getName());
    }

    static void none(String what, Call call) {
        throwing(what, NoSuchElementException.class, call);
    }

    static void illegal(String what, Call call) {
        throwing(what, IllegalArgumentException.class, call);
    }

    /** Ends the test as its form asks. */
    static void end(String test) {
        System.out.println(test + ": " + (wrong == 0 ? "all answers are as due" : wrong + " answers are not as due"));
        if (wrong != 0) {
            System.exit(1);
        }
    }
}
