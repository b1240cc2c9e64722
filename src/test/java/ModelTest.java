import java.util.Random;

/** Runs of up to 512 calls, drawn by a fixed seed, on PaletteTubes and on PlainPalette: all answers are alike. */
public final class ModelTest {
    private static final int RUNS = 600;
    private static final int CALLS = 512;
    /** More than any step makes, whose text may be longer than the buffer. */
    private static final int MOST_OF_A_STEP = 70;
    private static final String[] NAMES = {"a", "b", "c", "red", "mix", "tube", "blue", "palette", "abcdefgh", "most", "x", "zz"};
    private static final int[] ODD = {-1, Integer.MIN_VALUE, Integer.MAX_VALUE, 20, 100, 16777216, 1000, 100000};

    private final Random random;
    private final PaletteTubes x = new PaletteTubes();
    private final PlainPalette y = new PlainPalette();
    private final StringBuilder calls = new StringBuilder();
    private int made;

    private ModelTest(long seed) {
        random = new Random(seed);
    }

    public static void main(String[] args) {
        for (int run = 0; run < RUNS; run++) {
            if (!new ModelTest(run).run()) {
                System.out.println("in run " + run);
                System.exit(1);
            }
        }
        Check.end("ModelTest");
    }

    private boolean run() {
        for (int i = 0; made <= CALLS - MOST_OF_A_STEP; i++) {
            if (!step(i)) {
                System.out.println(calls);
                return false;
            }
        }
        Check.due("calls of a run, " + made, made <= CALLS, true);
        return true;
    }

    private static Object answer(Check.Call call) {
        try {
            return call.answer();
        } catch (RuntimeException e) {
            return e.getClass();
        }
    }

    private boolean same(String what, Check.Call mine, Check.Call plain) {
        made++;
        Object a = answer(mine);
        Object b = answer(plain);
        calls.append(what).append(" -> ").append(a).append('\n');
        if (!a.equals(b)) {
            Check.due(what, a, b);
            return false;
        }
        return true;
    }

    private int number(int below) {
        return random.nextInt(40) == 0 ? ODD[random.nextInt(ODD.length)] : random.nextInt(below + (random.nextInt(12) == 0 ? 1 : 0));
    }

    private int tube() {
        return number(Math.max(1, y.s.tubes().size()));
    }

    private int mix() {
        return number(Math.max(1, y.s.mixes().size()));
    }

    private int brush() {
        return number(y.s.brushes().size());
    }

    private int colour() {
        if (random.nextInt(3) == 0 && !y.s.mixes().isEmpty()) {
            int mix = random.nextInt(y.s.mixes().size());
            return y.mix(mix, 0) << 16 | y.mix(mix, 1) << 8 | y.mix(mix, 2);
        }
        return number(16777216);
    }

    private String name() {
        return NAMES[random.nextInt(NAMES.length)];
    }

    private String newName() {
        int kind = random.nextInt(30);
        return kind == 0 ? "abcdefghi" : kind < 8 ? name() : name().charAt(0) + "" + (char) ('a' + random.nextInt(26));
    }

    private String blank() {
        return random.nextInt(4) == 0 ? "" : random.nextInt(9) == 0 ? " \n" : " ";
    }

    private String tubeName() {
        if (y.s.tubes().isEmpty() || random.nextInt(25) == 0) {
            return name();
        }
        return y.s.tubes().get(random.nextInt(y.s.tubes().size())).name();
    }

    private String parts(java.util.List<String> tubes) {
        StringBuilder text = new StringBuilder();
        int count = 1 + random.nextInt(random.nextInt(8) == 0 ? 5 : 3);
        int from = random.nextInt(20);
        for (int i = 0; i < count; i++) {
            String tube = tubes == null ? tubeName() : tubes.isEmpty() ? "none" : tubes.get((from + i) % tubes.size());
            int parts = random.nextInt(30) == 0 ? random.nextInt(12) : 1 + random.nextInt(9);
            text.append(i == 0 ? "" : "+" + blank()).append(parts).append(blank()).append(tube).append(blank());
        }
        return text.toString();
    }

    private String palette() {
        StringBuilder text = new StringBuilder("palette");
        if (random.nextBoolean()) {
            text.append(" brushes ").append(random.nextInt(20) == 0 ? random.nextInt(8) : 1 + random.nextInt(6));
        }
        if (random.nextBoolean()) {
            text.append(" most ").append(random.nextInt(20) == 0 ? random.nextInt(8) : 1 + random.nextInt(6));
        }
        if (random.nextBoolean()) {
            text.append(" tolerance ").append(random.nextInt(random.nextInt(20) == 0 ? 200000 : 100000));
        }
        text.append(";");
        java.util.List<String> tubes = new java.util.ArrayList<>();
        int count = random.nextInt(9) == 0 ? 18 + random.nextInt(4) : 1 + random.nextInt(9);
        int scale = random.nextBoolean() ? 256 : 6;
        for (int i = 0; i < count; i++) {
            String name = random.nextInt(40) == 0 ? newName() : "" + (char) ('a' + random.nextInt(26)) + (char) ('a' + i);
            text.append("tube ").append(name);
            for (int j = 0; j < 3; j++) {
                text.append(' ').append(random.nextInt(250) == 0 ? 256 : random.nextInt(scale));
            }
            text.append(random.nextInt(3) == 0 ? " " + random.nextInt(random.nextInt(20) == 0 ? 20000 : 10000) : "").append(';');
            tubes.add(name);
        }
        int mixes = random.nextInt(9) == 0 ? 18 + random.nextInt(4) : random.nextInt(7);
        for (int i = 0; i < mixes; i++) {
            text.append("mix ").append(random.nextInt(40) == 0 ? newName() : "m" + (char) ('a' + i)).append('=')
                .append(mixes > 9 ? "1" + tubes.get(i % tubes.size()) : parts(tubes)).append(';');
        }
        return text.toString();
    }

    private String value() {
        String[] words = {"mix", "tubes", "parts", "red", "green", "blue", "broken", "strokes"};
        return random.nextInt(3) == 0 ? "" + random.nextInt(random.nextInt(30) == 0 ? 20000 : random.nextInt(3) == 0 ? 200 : 4)
            : words[random.nextInt(words.length)];
    }

    private String factor(int depth) {
        int kind = random.nextInt(depth > 8 ? 1 : 5);
        if (kind == 4) {
            return "not " + factor(depth + 1);
        }
        if (kind == 3) {
            return "(" + test(depth + 1) + ")";
        }
        return value() + blank() + "<=>".charAt(random.nextInt(3)) + blank() + value();
    }

    private String test(int depth) {
        StringBuilder text = new StringBuilder(factor(depth));
        while (random.nextInt(3) == 0 && text.length() < 120) {
            text.append(random.nextBoolean() ? " and " : " or ").append(factor(depth));
        }
        return text.toString();
    }

    /** Breaks a text at times: a byte changed, left out, or the end cut off. */
    private String broken(String text) {
        if (random.nextInt(5) != 0 || text.isEmpty()) {
            return text;
        }
        int at = random.nextInt(text.length());
        switch (random.nextInt(4)) {
            case 0: return text.substring(0, at);
            case 1: return text.substring(0, at) + text.substring(at + 1);
            case 2: return text.substring(0, at) + (char) random.nextInt(256) + text.substring(at + 1);
            default: return text.substring(0, at) + ";=+(<>)! 09az\n".charAt(random.nextInt(14)) + text.substring(at);
        }
    }

    private int feed(String text) {
        byte[] bytes = text.getBytes(java.nio.charset.StandardCharsets.ISO_8859_1);
        for (int from = 0; from < bytes.length; from += 20) {
            int[] w = new int[5];
            for (int i = 0; i < 20; i++) {
                w[i / 4] = w[i / 4] << 8 | (from + i < bytes.length ? bytes[from + i] & 255 : random.nextInt(9) == 0 ? 120 : 32);
            }
            same("feed", () -> x.feed(w[0], w[1], w[2], w[3], w[4]), () -> y.feed(w[0], w[1], w[2], w[3], w[4]));
        }
        return random.nextInt(50) == 0 ? number(1000) : bytes.length;
    }

    private boolean step(int i) {
        int kind = i == 0 ? 0 : random.nextInt(100);
        if (kind < 24) {
            return texts(i == 0 ? 0 : random.nextInt(25));
        }
        if (kind < 55) {
            return operations(random.nextInt(13));
        }
        made += 2;
        return asking(random.nextInt(26)) && x.errorPosition() == y.errorPosition() && x.undoCount() == y.undoCount();
    }

    private boolean texts(int kind) {
        if (kind == 0) {
            String text = broken(palette());
            int length = feed(text);
            return same("load " + text, () -> x.load(length), () -> y.load(length)) && position();
        }
        if (kind < 8) {
            String text = broken(parts(null));
            int length = feed(text);
            return same("mixed " + text, () -> x.mixed(length), () -> y.mixed(length)) && position();
        }
        if (kind < 16) {
            String text = broken(newName() + blank() + "=" + blank() + parts(null));
            int length = feed(text);
            return same("define " + text, () -> x.define(length), () -> y.define(length)) && position();
        }
        String text = broken((random.nextBoolean() ? "many " : "first ") + test(0));
        int length = feed(text);
        return same("query " + text, () -> x.query(length), () -> y.query(length)) && position();
    }

    private boolean position() {
        return same("errorPosition", x::errorPosition, y::errorPosition);
    }

    private boolean operations(int kind) {
        int tube = tube();
        int mix = mix();
        int brush = brush();
        switch (kind) {
            case 0: return random.nextInt(3) > 0 || same("forget " + mix, () -> x.forget(mix), () -> y.forget(mix));
            case 1: boolean retired = random.nextBoolean();
                return same("retire " + tube + retired, () -> x.retire(tube, retired), () -> y.retire(tube, retired));
            case 2: return same("heal " + mix, () -> x.heal(mix), () -> y.heal(mix));
            case 3: case 4: case 5: int strokes = number(random.nextBoolean() ? 100 : 9);
                return same("paint " + brush + " " + mix + " " + strokes, () -> x.paint(brush, mix, strokes),
                    () -> y.paint(brush, mix, strokes));
            case 6: return same("clean " + brush, () -> x.clean(brush), () -> y.clean(brush));
            case 7: return random.nextInt(3) > 0 || same("change", x::change, y::change);
            case 8: int drops = number(1000);
                return same("refill " + tube + " " + drops, () -> x.refill(tube, drops), () -> y.refill(tube, drops));
            case 9: int most = number(7);
                return same("setMost " + most, () -> x.setMost(most), () -> y.setMost(most));
            case 10: int tolerance = number(random.nextBoolean() ? 100000 : 1000);
                return same("setTolerance " + tolerance, () -> x.setTolerance(tolerance), () -> y.setTolerance(tolerance));
            case 11: return same("undo", x::undo, y::undo);
            default: return random.nextBoolean() || snapshots();
        }
    }

    private boolean snapshots() {
        if (random.nextInt(3) == 0) {
            return same("restoreSnapshot", x::restoreSnapshot, y::restoreSnapshot);
        }
        calls.append("saveSnapshot\n");
        made++;
        x.saveSnapshot();
        y.saveSnapshot();
        return true;
    }

    private boolean asking(int kind) {
        int tube = tube();
        int mix = mix();
        int brush = brush();
        int what = number(10);
        int few = number(6);
        int colour = colour();
        boolean either = random.nextBoolean();
        switch (kind) {
            case 0: return same("size " + what, () -> x.size(what), () -> y.size(what));
            case 1: return same("tube " + tube + " " + few, () -> x.tube(tube, few), () -> y.tube(tube, few));
            case 2: return same("mix " + mix + " " + few, () -> x.mix(mix, few), () -> y.mix(mix, few));
            case 3: return same("partOf " + mix + " " + few, () -> x.partOf(mix, few, either), () -> y.partOf(mix, few, either));
            case 4: int number = either ? mix : tube;
                return same("letter " + number, () -> x.letter(either, number, few), () -> y.letter(either, number, few));
            case 5: int other = colour();
                return same("apart " + colour + " " + other, () -> x.apart(colour, other), () -> y.apart(colour, other));
            case 6: return same("called " + colour, () -> x.called(colour), () -> y.called(colour));
            case 7: case 8: int k = number(4);
                return same("nearest " + colour + " " + k + " " + what, () -> x.nearest(colour, k, what), () -> y.nearest(colour, k, what));
            case 9: return same("fewest " + colour, () -> x.fewest(colour), () -> y.fewest(colour));
            case 10: return same("strokes " + mix, () -> x.strokes(mix), () -> y.strokes(mix));
            case 11: return same("shortest " + mix, () -> x.shortest(mix), () -> y.shortest(mix));
            case 12: return same("wouldPaint " + brush + " " + mix, () -> x.wouldPaint(brush, mix), () -> y.wouldPaint(brush, mix));
            case 13: return same("brush " + brush + " " + few, () -> x.brush(brush, few), () -> y.brush(brush, few));
            case 14: return same("bestBrush " + mix, () -> x.bestBrush(mix), () -> y.bestBrush(mix));
            case 15: case 16: int index = number(13);
                return same("painting " + index + " " + few, () -> x.painting(index, few), () -> y.painting(index, few));
            case 17: return same("spare", x::spare, y::spare);
            case 18: return same("closest", x::closest, y::closest);
            case 19: return same("twins", x::twins, y::twins);
            case 20: return same("loss " + mix, () -> x.loss(mix), () -> y.loss(mix));
            case 21: return same("meanDrops", x::meanDrops, y::meanDrops);
            case 22: return same("brokenShare", x::brokenShare, y::brokenShare);
            case 23: return same("format " + mix, () -> x.format(mix), () -> y.format(mix));
            default: int place = number(50);
                return same("formattedByte " + place, () -> x.formattedByte(place), () -> y.formattedByte(place));
        }
    }
}
