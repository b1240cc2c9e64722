import java.nio.charset.StandardCharsets;
import java.util.NoSuchElementException;

/** What the tests share: feeding texts, comparing answers, counting those that are wrong. */
final class Check {
    interface Call {
        Object answer();
    }

    interface Of {
        Object answer(int argument);
    }

    /** A call on an object that is given. */
    interface On {
        Object answer(PaletteTubes x);
    }

    static final int GREATEST = Integer.MAX_VALUE;
    static final int LEAST = Integer.MIN_VALUE;

    private static int wrong;

    private Check() {
    }

    /** Fills the buffer, which is empty, with this text and blanks behind it; answers the text's length. */
    static int feed(PaletteTubes x, String text) {
        byte[] bytes = text.getBytes(StandardCharsets.ISO_8859_1);
        int[] words = new int[5];
        for (int from = 0; from < bytes.length; from += 20) {
            for (int i = 0; i < 5; i++) {
                words[i] = 0;
                for (int j = 0; j < 4; j++) {
                    int at = from + 4 * i + j;
                    words[i] = words[i] << 8 | (at < bytes.length ? bytes[at] & 255 : 32);
                }
            }
            x.feed(words[0], words[1], words[2], words[3], words[4]);
        }
        return bytes.length;
    }

    static int load(PaletteTubes x, String text) {
        return x.load(feed(x, text));
    }

    static PaletteTubes loaded(String text) {
        PaletteTubes x = new PaletteTubes();
        if (load(x, text) < 0) {
            throw new AssertionError("the test's own text is wrong at " + x.errorPosition() + ": " + text);
        }
        return x;
    }

    static int define(PaletteTubes x, String text) {
        return x.define(feed(x, text));
    }

    static int mixed(PaletteTubes x, String text) {
        return x.mixed(feed(x, text));
    }

    static int query(PaletteTubes x, String text) {
        return x.query(feed(x, text));
    }

    static String format(PaletteTubes x, int mix) {
        int length = x.format(mix);
        return formatted(x, length);
    }

    static String formatted(PaletteTubes x, int length) {
        StringBuilder text = new StringBuilder();
        for (int i = 0; i < length; i++) {
            text.append((char) x.formattedByte(i));
        }
        return text.toString();
    }

    /** The text of the most recent format, byte by byte up to its end. */
    static String formatted(PaletteTubes x) {
        StringBuilder text = new StringBuilder();
        for (int at = x.formattedByte(0); at != PaletteTubes.NONE; at = x.formattedByte(text.length())) {
            text.append((char) at);
        }
        return text.toString();
    }

    /** What load answers to a text, and where its error is. */
    static String loadAnswer(String text) {
        PaletteTubes x = new PaletteTubes();
        return load(x, text) + " at " + x.errorPosition();
    }

    static String mixedAnswer(PaletteTubes x, String text) {
        return mixed(x, text) + " at " + x.errorPosition();
    }

    static String defineAnswer(PaletteTubes x, String text) {
        return define(x, text) + " at " + x.errorPosition();
    }

    /** What query answers to a text, an error as its code, and where the error is. */
    static String queryAnswer(PaletteTubes x, String text) {
        int answer = query(x, text);
        String shown = answer < PaletteTubes.NONE ? "error " + (PaletteTubes.HIDDEN - answer) : "" + answer;
        return shown + " at " + x.errorPosition();
    }

    static String name(PaletteTubes x, boolean ofMix, int number) {
        StringBuilder text = new StringBuilder();
        for (int at = x.letter(ofMix, number, 0); at != PaletteTubes.NONE; at = x.letter(ofMix, number, text.length())) {
            text.append((char) at);
        }
        return text.toString();
    }

    /** A mix as format would tell it, told by calls that leave the text of format alone. */
    static String mix(PaletteTubes x, int mix) {
        StringBuilder text = new StringBuilder(name(x, true, mix)).append('=');
        for (int i = 0; i < x.mix(mix, 3); i++) {
            text.append(i == 0 ? "" : "+").append(x.partOf(mix, i, true)).append(name(x, false, x.partOf(mix, i, false)));
        }
        return text.append(x.mix(mix, 5) == 1 ? "!" : "").toString();
    }

    static String brush(PaletteTubes x, int brush) {
        return x.brush(brush, 0) + " " + x.brush(brush, 1) + " " + x.brush(brush, 2) + " " + x.brush(brush, 3);
    }

    static String painting(PaletteTubes x, int index) {
        return x.painting(index, 0) + " " + x.painting(index, 1) + " " + x.painting(index, 2) + " " + x.painting(index, 3);
    }

    /** Everything that undoing restores. */
    static String state(PaletteTubes x) {
        StringBuilder text = new StringBuilder();
        for (int what = 0; what < 10; what++) {
            text.append(x.size(what)).append(' ');
        }
        for (int tube = 0; tube < x.size(0); tube++) {
            text.append(name(x, false, tube)).append(' ');
            for (int what = 0; what < 5; what++) {
                text.append(x.tube(tube, what)).append(' ');
            }
        }
        for (int mix = 0; mix < x.size(2); mix++) {
            text.append(mix(x, mix)).append(' ');
        }
        for (int brush = 0; brush < x.size(4); brush++) {
            text.append(brush(x, brush)).append(", ");
        }
        for (int painting = 0; painting < x.size(8); painting++) {
            text.append(painting(x, painting)).append(", ");
        }
        return text.toString();
    }

    /** All that later calls could tell, with the buffer, the undo history and the snapshot; it uses the object up. */
    static String whole(PaletteTubes x) {
        StringBuilder text = new StringBuilder(state(x));
        text.append("error ").append(x.errorPosition()).append(" formatted ").append(formatted(x));
        while (x.undoCount() > 0) {
            text.append(" undone ").append(x.undo()).append(' ').append(state(x));
        }
        text.append("snapshot ").append(x.restoreSnapshot()).append(' ').append(state(x));
        int fed = x.feed(0x20202020, 0x20202020, 0x20202020, 0x20202020, 0x20202020);
        text.append(" buffer ").append(fed).append(" load ").append(x.load(fed == PaletteTubes.NONE ? 900 : fed));
        return text.append(' ').append(x.errorPosition()).append(' ').append(state(x)).toString();
    }

    static void due(String what, Object got, Object want) {
        if (!want.equals(got)) {
            wrong++;
            System.out.println(what + ": answered " + got + ", due is " + want);
        }
    }

    /** That a call throws just this class, and answers nothing. */
    static void throwing(String what, Class<? extends RuntimeException> kind, Call call) {
        String got;
        try {
            got = String.valueOf(call.answer());
        } catch (RuntimeException e) {
            got = e.getClass().getName();
        }
        due(what, got, kind.getName());
    }

    static void none(String what, Call call) {
        throwing(what, NoSuchElementException.class, call);
    }

    static void illegal(String what, Call call) {
        throwing(what, IllegalArgumentException.class, call);
    }

    /** That a call takes the first and the last of a range, and throws this class for what is just or far outside. */
    private static void range(String what, Class<? extends RuntimeException> kind, int first, int last, Of call) {
        for (int inside : new int[] {first, last}) {
            try {
                call.answer(inside);
            } catch (RuntimeException e) {
                due(what + " " + inside, e.getClass().getName(), "an answer");
            }
        }
        for (int outside : new int[] {first - 1, last + 1, LEAST, GREATEST}) {
            throwing(what + " " + outside, kind, () -> call.answer(outside));
        }
    }

    static void noneOutside(String what, int first, int last, Of call) {
        range(what, NoSuchElementException.class, first, last, call);
    }

    static void illegalOutside(String what, int first, int last, Of call) {
        range(what, IllegalArgumentException.class, first, last, call);
    }

    /** Ends the test as its form asks. */
    static void end(String test) {
        System.out.println(test + ": " + (wrong == 0 ? "all answers are as due" : wrong + " answers are not as due"));
        if (wrong != 0) {
            System.exit(1);
        }
    }
}
