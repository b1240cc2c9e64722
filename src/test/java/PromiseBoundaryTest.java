/**
 * The boundary cases of the promises 1 to 43, in their order: the ends of every range and what is just and far outside,
 * empty and full, none and several. A check begins with the promise's number.
 */
public final class PromiseBoundaryTest {
    private static final int BLANKS = 0x20202020;

    private static final String SMALL = "palette; tube aa 10 20 30 40; tube b 50 60 70 80; mix m=1aa; mix nn=2b+1aa; mix o=9aa+9b;";

    public static void main(String[] args) {
        newObject();
        feed();
        feedOrder();
        load();
        loadReplacesEverything();
        errorPosition();
        size();
        tube();
        mix();
        partOf();
        letter();
        mixed();
        apart();
        called();
        nearest();
        fewest();
        strokes();
        shortest();
        wouldPaint();
        brush();
        bestBrush();
        painting();
        spare();
        closest();
        twins();
        loss();
        meanDrops();
        brokenShare();
        define();
        defineOfTwenty();
        forget();
        retire();
        heal();
        healOrder();
        healedToFewerTubes();
        paint();
        clean();
        change();
        refill();
        settings();
        format();
        formattedByte();
        undo();
        snapshot();
        query();
        queryOfTwenty();
        Check.end("PromiseBoundaryTest");
    }

    private static PaletteTubes small() {
        return Check.loaded(SMALL);
    }

    private static void newObject() {
        PaletteTubes x = new PaletteTubes();
        Check.due("1: as by the text \"palette;\"", Check.whole(x), Check.whole(Check.loaded("palette;")));
        Check.due("1: without tubes and mixes", Check.state(new PaletteTubes()), "0 0 0 0 2 4 300 0 0 0 0 0 0 0, 0 0 0 0, ");
        PaletteTubes y = new PaletteTubes();
        Check.due("1: NONE without tubes and mixes", y.called(0) + " " + y.nearest(0, 3, 0) + " " + y.fewest(0) + " " + y.spare() + " "
            + y.closest() + " " + y.undo(), "-1 -1 -1 -1 -1 -1");
        Check.due("1: 0 without tubes and mixes", y.twins() + " " + y.meanDrops() + " " + y.brokenShare() + " " + y.undoCount(), "0 0.0 0.0 0");
        Check.none("1: no tube", () -> y.tube(0, 0));
        Check.none("1: no mix", () -> y.mix(0, 0));
        Check.none("1: no painting", () -> y.painting(0, 0));
        Check.illegal("1: an empty buffer", () -> new PaletteTubes().load(1));
        Check.due("1: its constants", PaletteTubes.NONE + " " + PaletteTubes.HIDDEN, "-1 -1000000000");
    }

    private static void feed() {
        PaletteTubes x = new PaletteTubes();
        for (int fed = 20; fed <= 880; fed += 20) {
            Check.due("2: the number of bytes in the buffer", x.feed(BLANKS, BLANKS, BLANKS, BLANKS, BLANKS), fed);
        }
        Check.due("2: not more than 900", x.feed(BLANKS, BLANKS, BLANKS, 0x70616c65, 0x7474653b), 900);
        Check.due("2: NONE if it would exceed 900", x.feed(0, 0, 0, 0, 0), -1);
        Check.due("2: NONE again", x.feed(0, 0, 0, 0, 0), -1);
        Check.illegal("2: then nothing is appended", () -> x.load(901));
        Check.illegal("2: then nothing is appended", () -> x.load(920));
        Check.due("2: what there is stays", x.load(900) + " " + x.errorPosition(), "0 -1");
        Check.due("2: room again behind a call that reads", x.feed(0, 0, 0, 0, 0), 20);
        PaletteTubes y = new PaletteTubes();
        for (int i = 0; i < 45; i++) {
            y.feed(BLANKS, BLANKS, BLANKS, BLANKS, BLANKS);
        }
        Check.due("2: a full buffer is emptied by define, too", y.define(0) + " " + y.feed(0, 0, 0, 0, 0), "-11 20");
    }

    /** Each of the 20 places in turn bears an invalid byte, which tells its position. */
    private static void feedOrder() {
        for (int at = 0; at < 20; at++) {
            for (int b : new int[] {0, 127, 128, 255}) {
                int[] words = {BLANKS, BLANKS, BLANKS, BLANKS, BLANKS};
                int shift = 24 - 8 * (at % 4);
                words[at / 4] = BLANKS & ~(255 << shift) | b << shift;
                PaletteTubes x = new PaletteTubes();
                x.feed(BLANKS, BLANKS, BLANKS, BLANKS, BLANKS);
                x.feed(words[0], words[1], words[2], words[3], words[4]);
                Check.due("2: the most significant byte first, byte " + b, x.load(40) + " " + x.errorPosition(), "-11 " + (20 + at));
            }
        }
        PaletteTubes x = new PaletteTubes();
        Check.due("2: any parameters", x.feed(-1, Check.LEAST, Check.GREATEST, 0, -2), 20);
    }

    private static void load() {
        for (int bad : new int[] {-1, 41, 901, Check.LEAST, Check.GREATEST}) {
            PaletteTubes x = new PaletteTubes();
            int length = Check.feed(x, "palette; tube abcdefgh 1 2 3;");
            Check.illegal("3: length " + bad, () -> x.load(bad));
            Check.due("3: nothing changes, length " + bad, x.errorPosition() + " " + x.load(length), "-1 1");
        }
        for (int length = 0; length <= 20; length++) {
            PaletteTubes x = new PaletteTubes();
            Check.feed(x, "palette;   #");
            String want = length < 8 ? "-11 " + (length == 0 || length == 7 ? length : 0) : length < 12 ? "0 -1" : "-11 11";
            Check.due("3: reads the first bytes, " + length, x.load(length) + " " + x.errorPosition(), want);
            Check.due("3: the buffer is empty afterwards, also after an error", x.feed(0, 0, 0, 0, 0), 20);
        }
        StringBuilder text = new StringBuilder("palette;");
        for (int i = 0; i < 20; i++) {
            text.append("tube ").append((char) ('a' + i)).append(" 255 255 255 9999;");
        }
        while (text.length() < 899) {
            text.append(' ');
        }
        Check.due("3: 900 bytes", Check.loadAnswer(text + "\n"), "20 at -1");
        Check.due("3: an error at the last of 900 bytes", Check.loadAnswer(text + "#"), "-11 at 899");
        Check.illegal("3: an empty buffer", () -> new PaletteTubes().load(1));
        Check.due("3: an empty text", Check.loadAnswer(""), "-11 at 0");
    }

    private static PaletteTubes worked() {
        PaletteTubes x = small();
        x.setMost(6);
        x.setTolerance(7);
        x.paint(1, 0, 1);
        x.paint(0, 0, 1);
        x.clean(0);
        x.retire(0, true);
        x.saveSnapshot();
        x.format(0);
        return x;
    }

    private static void loadReplacesEverything() {
        PaletteTubes x = worked();
        Check.due("3: the number of tubes", Check.load(x, SMALL), 2);
        Check.due("3: replaces everything", Check.state(x), Check.state(small()));
        Check.due("3: the undo history is discarded", x.undoCount() + " " + x.undo(), "0 -1");
        Check.due("3: the snapshot is discarded", x.restoreSnapshot(), false);
        Check.due("3: nothing comes back", Check.state(x), Check.state(small()));
        Check.due("38: also behind load", Check.formatted(x), "m=1aa!");
        PaletteTubes y = worked();
        Check.due("3: an error", Check.load(y, "palette brushes 6 most 1 tolerance 1; tube z 1 1 1; #"), -11);
        Check.due("3: then only the buffer and the error position change", y.errorPosition() + " " + Check.state(y),
            "52 " + Check.state(worked()));
        Check.due("3: not the undo history", y.undoCount() + " " + y.undo() + " " + y.size(1), "6 5 2");
        Check.due("3: not the snapshot", y.restoreSnapshot() + " " + y.size(1), "true 1");
        Check.load(y, "palette;");
        Check.due("3: nothing at all is left", Check.state(y), Check.state(new PaletteTubes()));
    }

    private static void errorPosition() {
        PaletteTubes x = small();
        Check.due("4: that call had no error, load", x.errorPosition(), -1);
        Check.load(x, " #");
        Check.due("4: load", x.errorPosition(), 1);
        Check.mixed(x, "1aa");
        Check.due("4: that call had no error, mixed", x.errorPosition(), -1);
        Check.mixed(x, "1aa+#");
        Check.due("4: mixed", x.errorPosition(), 4);
        Check.define(x, "p=1b");
        Check.due("4: that call had no error, define", x.errorPosition(), -1);
        Check.define(x, "p=#");
        Check.due("4: define", x.errorPosition(), 2);
        Check.query(x, "many 1=1");
        Check.due("4: that call had no error, query", x.errorPosition(), -1);
        Check.query(x, "many #");
        Check.due("4: query", x.errorPosition(), 5);
        x.feed(0, 0, 0, 0, 0);
        Check.illegal("4: did not read the buffer", () -> x.load(21));
        Check.illegal("4: did not read the buffer", () -> x.mixed(-1));
        Check.illegal("4: did not read the buffer", () -> x.define(201));
        Check.illegal("4: did not read the buffer", () -> x.query(21));
        Check.due("4: the most recent call that read it", x.errorPosition(), 5);
        Check.due("4: no such call", new PaletteTubes().errorPosition(), -1);
        Check.due("4: a first error at 0", Check.mixed(x, "#") + " " + x.errorPosition(), "-11 0");
    }

    private static void size() {
        PaletteTubes x = worked();
        Check.noneOutside("5: what", 0, 9, x::size);
        int[] wants = {2, 1, 3, 3, 2, 6, 7, 1, 2, 40 + 80 - 2};
        for (int what = 0; what < wants.length; what++) {
            Check.due("5: what " + what + " (9 in retired tubes, too)", x.size(what), wants[what]);
        }
        Check.noneOutside("5: what of a new object", 0, 9, new PaletteTubes()::size);
    }

    private static void tube() {
        PaletteTubes x = small();
        Check.noneOutside("6: tube", 0, 1, tube -> x.tube(tube, 0));
        Check.noneOutside("6: what", 0, 5, what -> x.tube(1, what));
        Check.due("6: of the first", x.tube(0, 0) + " " + x.tube(0, 1) + " " + x.tube(0, 2) + " " + x.tube(0, 3) + " " + x.tube(0, 4)
            + " " + x.tube(0, 5), "10 20 30 40 1 3");
        x.retire(1, true);
        Check.due("6: of the last, broken ones, too", x.tube(1, 0) + " " + x.tube(1, 1) + " " + x.tube(1, 2) + " " + x.tube(1, 3)
            + " " + x.tube(1, 4) + " " + x.tube(1, 5), "50 60 70 80 0 2");
        Check.due("6: used by none", Check.loaded("palette; tube a 1 1 1;").tube(0, 5), 0);
        Check.none("6: both wrong", () -> x.tube(2, 6));
    }

    private static void mix() {
        PaletteTubes x = small();
        Check.noneOutside("7: mix", 0, 2, mix -> x.mix(mix, 5));
        Check.noneOutside("7: what", 0, 5, what -> x.mix(2, what));
        Check.due("7: of the last", x.mix(2, 0) + " " + x.mix(2, 1) + " " + x.mix(2, 2) + " " + x.mix(2, 3) + " " + x.mix(2, 4)
            + " " + x.mix(2, 5), "30 40 50 2 18 0");
        PaletteTubes y = Check.loaded("palette; tube a 0 0 0; tube b 0 0 0; tube c 0 0 0; tube d 0 0 0; mix m=9a+9b+9c+9d; mix n=1a;");
        Check.due("7: most tubes and parts", y.mix(0, 3) + " " + y.mix(0, 4), "4 36");
        Check.due("7: fewest tubes and parts", y.mix(1, 3) + " " + y.mix(1, 4), "1 1");
        Check.none("7: both wrong", () -> x.mix(3, 6));
    }

    private static void partOf() {
        PaletteTubes x = Check.loaded("palette; tube a 0 0 0; tube b 0 0 0; tube c 0 0 0; tube d 0 0 0; mix m=4d+3a+2c+1b; mix n=9b;");
        Check.noneOutside("8: mix, its tubes", 0, 1, mix -> x.partOf(mix, 0, false));
        Check.noneOutside("8: mix, its parts", 0, 1, mix -> x.partOf(mix, 0, true));
        Check.noneOutside("8: it has not so many tubes", 0, 3, i -> x.partOf(0, i, false));
        Check.noneOutside("8: it has not so many parts", 0, 3, i -> x.partOf(0, i, true));
        Check.noneOutside("8: it has one tube", 0, 0, i -> x.partOf(1, i, false));
        Check.noneOutside("8: it has one tube, its parts", 0, 0, i -> x.partOf(1, i, true));
        int[] tubes = {3, 0, 2, 1};
        for (int i = 0; i < 4; i++) {
            Check.due("8: in the order in which they were told", x.partOf(0, i, false) + " " + x.partOf(0, i, true), tubes[i] + " " + (4 - i));
        }
        Check.define(x, "m=9b");
        Check.none("8: it has not so many tubes any more", () -> x.partOf(0, 1, false));
        Check.none("8: it has not so many parts any more", () -> x.partOf(0, 1, true));
    }

    private static void letter() {
        PaletteTubes x = Check.loaded("palette; tube a 0 0 0; tube hgfedcba 0 0 0; mix b=1a; mix stuvwxyz=1a; mix az=1a;");
        Check.noneOutside("9: tube", 0, 1, tube -> x.letter(false, tube, 0));
        Check.noneOutside("9: mix", 0, 2, mix -> x.letter(true, mix, 0));
        Check.noneOutside("9: tube, where the letter is NONE", 0, 1, tube -> x.letter(false, tube, -1));
        Check.noneOutside("9: mix, where the letter is NONE", 0, 2, mix -> x.letter(true, mix, 8));
        for (int i = 0; i < 8; i++) {
            Check.due("9: from 0, tube", x.letter(false, 1, i), 'h' - i);
            Check.due("9: from 0, mix", x.letter(true, 1, i), 's' + i);
            Check.due("9: NONE if there are not so many, tube", x.letter(false, 0, i), i == 0 ? 'a' : -1);
            Check.due("9: NONE if there are not so many, mix", x.letter(true, 2, i), i == 0 ? 'a' : i == 1 ? 'z' : -1);
        }
        for (int index : new int[] {-1, 8, 9, -8, Check.LEAST, Check.GREATEST}) {
            Check.due("9: NONE, index " + index, x.letter(false, 1, index) + " " + x.letter(true, 1, index) + " " + x.letter(true, 0, index),
                "-1 -1 -1");
        }
    }

    private static String blanksTo(int length, String text) {
        return text + " ".repeat(length - text.length());
    }

    private static void mixed() {
        PaletteTubes x = small();
        Check.due("10: 200 bytes", Check.mixed(x, blanksTo(199, "1aa") + "\n") + " " + x.errorPosition(), 0x0a141e + " -1");
        Check.due("10: an error at the last of 200", Check.mixed(x, blanksTo(199, "1aa") + "b") + " " + x.errorPosition(), "-11 199");
        Check.feed(x, blanksTo(220, "1b"));
        for (int bad : new int[] {-1, 201, 220, 221, Check.LEAST, Check.GREATEST}) {
            Check.illegal("10: length " + bad, () -> x.mixed(bad));
        }
        Check.due("10: nothing changes", x.errorPosition() + " " + x.mixed(200), "199 " + 0x323c46);
        Check.feed(x, "1aa");
        Check.illegal("10: more than there is", () -> x.mixed(21));
        Check.due("10: the first bytes alone", x.mixed(3), 0x0a141e);
        Check.illegal("10: the buffer is empty afterwards", () -> x.mixed(1));
        Check.due("10: nothing", x.mixed(0) + " " + x.errorPosition(), "-11 0");
        Check.due("10: without a name", Check.mixedAnswer(x, "p=1aa"), "-11 at 0");
        Check.due("10: a fifth part", Check.mixedAnswer(Check.loaded("palette; tube a 0 0 0; tube b 0 0 0; tube c 0 0 0; tube d 0 0 0;"),
            "1a+1b+1c+1d+1e"), "-13 at 12");
        Check.due("10: none of the mixes", Check.mixedAnswer(x, "1m"), "-14 at 1");
        Check.due("10: parts", Check.mixedAnswer(x, "1aa+10b"), "-12 at 4");
        Check.due("10: no ';'", Check.mixedAnswer(x, "1aa;"), "-11 at 3");
        Check.due("10: without tubes", Check.mixedAnswer(new PaletteTubes(), "1a"), "-14 at 1");
        x.retire(0, true);
        Check.due("10: a tube that is retired was told", Check.mixed(x, "1aa"), 0x0a141e);
    }

    private static void apart() {
        PaletteTubes x = new PaletteTubes();
        Check.illegalOutside("11: colour", 0, 16777215, colour -> x.apart(colour, 0));
        Check.illegalOutside("11: other", 0, 16777215, colour -> x.apart(16777215, colour));
        Check.illegal("11: both", () -> x.apart(-1, 16777216));
    }

    private static void called() {
        PaletteTubes x = Check.loaded("palette; tube a 0 0 0; tube b 255 255 255; tube c 4 0 0; mix m=1b; mix n=1a; mix o=2a; mix p=1c;");
        Check.illegalOutside("12: colour", 0, 16777215, x::called);
        Check.illegalOutside("12: colour, without mixes", 0, 16777215, new PaletteTubes()::called);
        Check.due("12: of several the smallest", x.called(0), 1);
        Check.due("12: of several as far the smallest", x.called(0x020000), 1);
        Check.due("12: the last", x.called(0x030000), 3);
        Check.due("12: NONE without mixes", Check.loaded("palette; tube a 0 0 0;").called(0), -1);
        PaletteTubes y = Check.loaded("palette; tube b 255 255 255; mix m=1b;");
        Check.due("12: as far as can be", y.called(0), 0);
        y.retire(0, true);
        Check.due("12: a broken one", y.called(0), 0);
        y.forget(0);
        Check.due("12: NONE without mixes any more", y.called(0), -1);
    }

    private static void nearest() {
        PaletteTubes x = Check.loaded("palette; tube a 255 255 255; tube b 255 0 0;");
        Check.illegalOutside("13: colour", 0, 16777215, colour -> x.nearest(colour, 1, 0));
        Check.illegalOutside("13: k", 1, 3, k -> x.nearest(0, k, 0));
        Check.noneOutside("13: what", 0, 9, what -> x.nearest(0, 3, what));
        Check.noneOutside("13: what, no tube is in use", 0, 9, what -> new PaletteTubes().nearest(0, 3, what));
        Check.illegalOutside("13: k, no tube is in use", 1, 3, k -> new PaletteTubes().nearest(0, k, 0));
        Check.illegalOutside("13: colour, no tube is in use", 0, 16777215, colour -> new PaletteTubes().nearest(colour, 1, 0));
        Check.none("13: what is checked first", () -> x.nearest(-1, 1, 10));
        Check.none("13: what is checked first", () -> x.nearest(0, 0, -1));
        Check.due("13: as far as can be", Check.loaded("palette; tube a 255 255 255;").nearest(0, 3, 3), 585225);
        for (int what = 4; what <= 9; what++) {
            Check.due("13: NONE if it has not so many tubes, " + what, x.nearest(0xff0000, 3, what), what == 4 ? 1 : what == 7 ? 1 : -1);
            Check.due("13: NONE if it has not so many tubes, of two, " + what, x.nearest(0xff8080, 3, what),
                what == 6 || what == 9 ? -1 : what == 5 || what == 7 || what == 8 ? 1 : 0);
        }
        x.retire(0, true);
        Check.due("13: one tube in use", x.nearest(0xffffff, 3, 1) + " " + x.nearest(0xffffff, 3, 4), "1 1");
        x.retire(1, true);
        for (int what = 0; what <= 9; what++) {
            Check.due("13: NONE if no tube is in use, " + what, x.nearest(0, 3, what), -1);
        }
        StringBuilder text = new StringBuilder("palette most 6;");
        for (int i = 0; i < 20; i++) {
            text.append("tube ").append((char) ('a' + i)).append(i < 17 ? " 255 255 255;" : i == 17 ? " 60 0 0;" : i == 18 ? " 0 60 0;" : " 0 0 60;");
        }
        PaletteTubes y = Check.loaded(text.toString());
        Check.due("13: the last three of 20", y.nearest(0x0a141e, 3, 0) + " " + y.nearest(0x0a141e, 3, 4) + " " + y.nearest(0x0a141e, 3, 5) + " "
            + y.nearest(0x0a141e, 3, 6) + " " + y.nearest(0x0a141e, 3, 7) + " " + y.nearest(0x0a141e, 3, 8) + " " + y.nearest(0x0a141e, 3, 9),
            0x0a141e + " 17 18 19 1 2 3");
    }

    private static void fewest() {
        PaletteTubes x = Check.loaded("palette most 3 tolerance 2; tube a 30 0 0; tube b 0 30 0; tube c 0 0 30;");
        Check.illegalOutside("14: colour", 0, 16777215, x::fewest);
        Check.illegalOutside("14: colour, no tube is in use", 0, 16777215, new PaletteTubes()::fewest);
        Check.due("14: the least k (1 to 3)", x.fewest(0x1e0000) + " " + x.fewest(0x0f0f00) + " " + x.fewest(0x0a0a0a), "1 2 3");
        Check.due("14: at most TOLERANCE far", x.fewest(0x1f0000) + " " + x.fewest(0x100f00) + " " + x.fewest(0x0b0a0a), "1 2 3");
        x.setTolerance(1);
        Check.due("14: NONE if it is farther", x.fewest(0x1f0000) + " " + x.fewest(0x100f00) + " " + x.fewest(0x0b0a0a), "-1 -1 -1");
        x.setTolerance(0);
        Check.due("14: TOLERANCE 0", x.fewest(0x1e0000) + " " + x.fewest(0x0f0f00) + " " + x.fewest(0x0a0a0a), "1 2 3");
        x.setMost(2);
        Check.due("14: NONE if there is none with MOST 2", x.fewest(0x0a0a0a), -1);
        x.setTolerance(99999);
        Check.due("14: the greatest TOLERANCE", x.fewest(0x1e0000) + " " + x.fewest(0xffffff), "1 -1");
        for (int tube = 0; tube < 3; tube++) {
            x.retire(tube, true);
        }
        Check.due("14: NONE, no tube is in use", x.fewest(0x1e0000), -1);
    }

    private static void strokes() {
        PaletteTubes x = Check.loaded("palette; tube a 0 0 0 9999; tube b 0 0 0 0; tube c 0 0 0 17; tube d 0 0 0 9998;"
            + "mix m=1a; mix n=1a+1b; mix o=9c; mix p=9a+8c; mix q=9a+9d;");
        Check.noneOutside("15: mix", 0, 4, x::strokes);
        Check.due("15: also above 99", x.strokes(0), 9999);
        Check.due("15: none", x.strokes(1), 0);
        Check.due("15: rounded down", x.strokes(2) + " " + x.strokes(3) + " " + x.strokes(4), "1 2 1110");
        x.retire(0, true);
        Check.due("15: whether it is broken or not", x.strokes(0), 9999);
        x.refill(2, 1);
        Check.due("15: just enough", x.strokes(2), 2);
    }

    private static void shortest() {
        PaletteTubes x = Check.loaded("palette; tube a 0 0 0 20; tube b 0 0 0 10; tube c 0 0 0 29; tube d 0 0 0 10;"
            + "mix m=1d+1b+1a; mix n=2a+1b; mix o=3c+1b+1d; mix p=2a; mix q=1c+2a+1b;");
        Check.noneOutside("16: mix", 0, 4, x::shortest);
        Check.due("16: of several the smallest tube, not the first told", x.shortest(0), 1);
        Check.due("16: as many strokes, not as many drops", x.shortest(1), 0);
        Check.due("16: the fewest strokes", x.shortest(2), 2);
        Check.due("16: a single one", x.shortest(3), 0);
        Check.due("16: of several the smallest tube, told in the middle", x.shortest(4), 0);
        x.retire(0, true);
        Check.due("16: a retired one, too", x.shortest(4), 0);
        x.refill(2, 1);
        Check.due("16: then all have 10 strokes", x.shortest(2), 1);
        PaletteTubes y = Check.loaded("palette; tube a 0 0 0; tube b 0 0 0 0; tube c 0 0 0 0; mix m=1c+1b; mix n=1c; mix o=1a+1c;");
        Check.due("16: nothing is left", y.shortest(0) + " " + y.shortest(1) + " " + y.shortest(2), "1 2 2");
    }

    private static void wouldPaint() {
        PaletteTubes x = small();
        Check.noneOutside("17: brush", 0, 1, brush -> x.wouldPaint(brush, 0));
        Check.noneOutside("17: mix", 0, 2, mix -> x.wouldPaint(0, mix));
        Check.none("17: both", () -> x.wouldPaint(2, 3));
        String before = Check.state(x);
        x.wouldPaint(0, 0);
        Check.due("17: would, but is not", Check.state(x) + x.undoCount(), before + 0);
        x.retire(0, true);
        Check.due("17: a broken one", x.wouldPaint(0, 0), 0x0a141e);
        PaletteTubes y = Check.loaded("palette; tube a 1 2 3 0; mix m=1a;");
        Check.due("17: nothing is left", y.wouldPaint(0, 0), 0x010203);
    }

    private static void brush() {
        PaletteTubes x = Check.loaded("palette brushes 6; tube a 1 2 3; mix m=1a;");
        Check.noneOutside("18: brush", 0, 5, brush -> x.brush(brush, 3));
        Check.noneOutside("18: what", 0, 3, what -> x.brush(5, what));
        x.paint(5, 0, 1);
        Check.due("18: the last one", Check.brush(x, 5) + " " + Check.brush(x, 4), "1 2 3 1 0 0 0 0");
        Check.none("18: one brush", () -> Check.loaded("palette brushes 1;").brush(1, 0));
    }

    private static void bestBrush() {
        PaletteTubes x = Check.loaded("palette brushes 3; tube a 255 255 255; tube b 0 0 0; mix m=1a; mix n=1b;");
        Check.noneOutside("19: mix", 0, 1, x::bestBrush);
        Check.due("19: of several the smallest", x.bestBrush(0), 0);
        x.paint(0, 0, 1);
        Check.due("19: of several the smallest, all as near", x.bestBrush(0), 0);
        Check.due("19: of several clean ones the smallest", x.bestBrush(1), 1);
        x.paint(1, 0, 1);
        Check.due("19: the last", x.bestBrush(1), 2);
        x.paint(2, 0, 1);
        Check.due("19: of several dirty ones the smallest", x.bestBrush(1), 0);
        Check.due("19: one brush", Check.loaded("palette brushes 1; tube a 1 1 1; mix m=1a;").bestBrush(0), 0);
    }

    private static void painting() {
        PaletteTubes x = small();
        Check.none("20: without any", () -> x.painting(0, 0));
        x.paint(1, 0, 2);
        Check.noneOutside("20: one", 0, 0, index -> x.painting(index, 0));
        Check.noneOutside("20: what", 0, 3, what -> x.painting(0, what));
        x.paint(1, 1, 3);
        Check.noneOutside("20: two", 0, 1, index -> x.painting(index, 3));
        Check.due("20: the latest one first", Check.painting(x, 1), 0x0a141e + " 1 2 " + 0x0a141e);
        int colour = 65536 * 32 + 256 * 42 + 52;
        Check.due("20: its colour, and that of the mix", Check.painting(x, 0), colour + " 1 3 " + 0x252f39);
        Check.define(x, "nn=1aa");
        Check.due("20: as it was then, defined anew", x.painting(0, 3), 0x252f39);
        x.forget(1);
        Check.due("20: as it was then, forgotten", x.painting(0, 3), 0x252f39);
        x.undo();
        x.undo();
        x.undo();
        Check.noneOutside("20: one again", 0, 0, index -> x.painting(index, 0));
        PaletteTubes y = Check.loaded("palette; tube a 1 1 1 9999; mix m=1a;");
        for (int i = 0; i < 13; i++) {
            y.paint(0, 0, 99 - i);
        }
        Check.noneOutside("20: twelve", 0, 11, index -> y.painting(index, 0));
        Check.due("20: the greatest strokes that are kept", y.painting(11, 2), 98);
    }

    private static void spare() {
        PaletteTubes x = Check.loaded("palette; tube a 0 0 0; tube b 0 0 0; tube c 0 0 0; mix m=1a; mix n=1a+1b; mix o=1c;");
        Check.due("21: of several the smallest", x.spare(), 1);
        x.retire(2, true);
        Check.due("21: in use", x.spare(), 1);
        x.retire(1, true);
        Check.due("21: the only one in use", x.spare(), 0);
        x.retire(0, true);
        Check.due("21: NONE if none is in use", x.spare(), -1);
        x.retire(2, false);
        Check.due("21: the last", x.spare(), 2);
        Check.due("21: without mixes", Check.loaded("palette; tube a 0 0 0; tube b 0 0 0;").spare(), 0);
        Check.due("21: without tubes", new PaletteTubes().spare(), -1);
        StringBuilder text = new StringBuilder("palette; tube a 0 0 0;");
        for (int i = 0; i < 20; i++) {
            text.append("mix m").append((char) ('a' + i)).append("=1a;");
        }
        Check.due("21: one that all 20 mixes use", Check.loaded(text.toString()).spare(), 0);
    }

    private static void closest() {
        Check.due("22: NONE without any", new PaletteTubes().closest(), -1);
        PaletteTubes x = Check.loaded("palette; tube a 0 0 0; tube b 255 255 255; tube c 9 9 9; mix m=1a;");
        Check.due("22: NONE with one", x.closest(), -1);
        Check.define(x, "n=1b");
        Check.due("22: two, as far as can be", x.closest(), 1);
        Check.define(x, "o=2b");
        Check.due("22: the two that are least far apart", x.closest(), 102);
        Check.define(x, "p=2a");
        Check.due("22: of several the smallest, by the first", x.closest(), 3);
        Check.define(x, "q=3a");
        Check.due("22: of several the smallest, by the second", x.closest(), 3);
        x.retire(0, true);
        Check.due("22: broken ones, too", x.closest(), 3);
        StringBuilder text = new StringBuilder("palette; tube a 0 0 0; tube b 200 200 200; tube c 0 200 0;");
        for (int i = 0; i < 20; i++) {
            String parts = i < 9 ? (i + 1) + "a+9b" : i < 17 ? "9a+" + (i - 8) + "b" : i == 17 ? "1a" : "1c";
            text.append("mix m").append((char) ('a' + i)).append('=').append(parts).append(';');
        }
        PaletteTubes y = Check.loaded(text.toString());
        Check.due("22: of 20 the last two", y.closest(), 1819);
        for (int i = 0; i < 8; i++) {
            y.forget(8);
        }
        Check.due("22: behind those that are forgotten", y.closest(), 1011);
    }

    private static void twins() {
        Check.due("23: without any", new PaletteTubes().twins(), 0);
        Check.due("23: one, which is black", Check.loaded("palette; tube a 0 0 0; mix m=1a;").twins(), 0);
        StringBuilder text = new StringBuilder("palette; tube a 1 1 1; tube b 1 1 2;");
        for (int i = 0; i < 20; i++) {
            PaletteTubes x = Check.loaded(text.toString());
            Check.due("23: pairs of " + i, x.twins(), i * (i - 1) / 2);
            text.append("mix m").append((char) ('a' + i)).append("=1a;");
        }
        PaletteTubes y = Check.loaded(text.toString());
        Check.due("23: pairs of 20", y.twins(), 190);
        Check.define(y, "mt=1b");
        Check.due("23: a colour that differs in one", y.twins(), 171);
        Check.define(y, "ma=9b");
        Check.due("23: two colours", y.twins(), 153 + 1);
        y.retire(0, true);
        Check.due("23: broken ones, too", y.twins(), 153 + 1);
    }

    private static void loss() {
        PaletteTubes x = Check.loaded("palette most 4; tube a 0 0 0; tube b 0 0 40; tube c 0 40 0; tube d 40 0 0; mix m=1a+1b+1c+1d; mix n=1b;");
        Check.noneOutside("24: mix", 0, 1, x::loss);
        Check.due("24: at most 3 tubes", x.loss(0), x.nearest(0x0a0a0a, 3, 3));
        Check.due("24: at most 3 tubes, not 4", x.loss(0) > 0, true);
        Check.due("24: exact", x.loss(1), 0);
        x.retire(1, true);
        Check.due("24: a broken one", x.loss(1), 4800);
        for (int tube = 0; tube < 4; tube++) {
            x.retire(tube, true);
        }
        Check.due("24: NONE if no tube is in use", x.loss(0) + " " + x.loss(1), "-1 -1");
        Check.none("24: no such mix, no tube is in use", () -> x.loss(2));
    }

    private static void meanDrops() {
        Check.due("25: 0 without any", new PaletteTubes().meanDrops(), 0.0);
        PaletteTubes x = Check.loaded("palette; tube a 0 0 0 1; tube b 0 0 0 0; tube c 0 0 0 9999;");
        Check.due("25: all", x.meanDrops(), 10000.0 / 3.0);
        x.retire(2, true);
        Check.due("25: in use", x.meanDrops(), 0.5);
        x.retire(0, true);
        Check.due("25: empty", x.meanDrops(), 0.0);
        x.retire(1, true);
        Check.due("25: 0 without any in use", x.meanDrops(), 0.0);
        x.retire(2, false);
        Check.due("25: one", x.meanDrops(), 9999.0);
    }

    private static void brokenShare() {
        Check.due("26: 0 without any", new PaletteTubes().brokenShare(), 0f);
        PaletteTubes x = Check.loaded("palette; tube a 0 0 0; tube b 0 0 0; tube c 0 0 0; mix m=1a; mix n=1b; mix o=1c;");
        Check.due("26: none is broken", x.brokenShare(), 0f);
        x.retire(0, true);
        Check.due("26: a third, as floats", x.brokenShare(), 1f / 3f);
        x.retire(1, true);
        Check.due("26: two thirds", x.brokenShare(), 2f / 3f);
        x.retire(2, true);
        Check.due("26: all", x.brokenShare(), 1f);
        x.forget(0);
        x.forget(0);
        x.forget(0);
        Check.due("26: 0 without any more", x.brokenShare(), 0f);
    }

    private static void define() {
        PaletteTubes x = small();
        Check.due("27: 200 bytes", Check.define(x, blanksTo(199, "p=1aa") + "\n") + " " + x.errorPosition(), "3 -1");
        Check.due("27: an error at the last of 200", Check.define(x, blanksTo(199, "q=1aa") + "b") + " " + x.errorPosition(), "-11 199");
        Check.feed(x, blanksTo(220, "p=2b"));
        for (int bad : new int[] {-1, 201, 220, 221, Check.LEAST, Check.GREATEST}) {
            Check.illegal("27: length " + bad, () -> x.define(bad));
        }
        Check.due("27: nothing changes", x.errorPosition() + " " + x.undoCount() + " " + x.define(200), "199 1 3");
        Check.due("27: that mix gets these parts, its number stays", x.size(2) + " " + Check.mix(x, 3), "4 p=2b");
        Check.feed(x, "p=3b+1aa");
        Check.illegal("27: more than there is", () -> x.define(21));
        Check.due("27: the first bytes alone", x.define(4) + " " + Check.mix(x, 3), "3 p=3b");
        Check.illegal("27: the buffer is empty afterwards", () -> x.define(1));
        Check.due("27: a mix of the middle gets fewer tubes", Check.define(x, "nn=9aa") + " " + Check.mix(x, 1), "1 nn=9aa");
        Check.due("27: nothing", x.define(0) + " " + x.errorPosition(), "-11 0");
        Check.due("27: without 'mix'", Check.defineAnswer(x, "mix r=1aa"), "-11 at 4");
        Check.due("27: without NEW", Check.defineAnswer(x, "=1aa"), "-11 at 0");
        Check.due("27: without '='", Check.defineAnswer(x, "r 1aa"), "-11 at 2");
        Check.due("27: without parts", Check.defineAnswer(x, "r="), "-11 at 2");
        Check.due("27: with ';'", Check.defineAnswer(x, "r=1aa;"), "-11 at 5");
        Check.due("27: a NEW that a tube has", Check.defineAnswer(x, "aa=1aa"), "-13 at 0");
        Check.due("27: a NEW of 9 letters", Check.defineAnswer(x, "abcdefghi=1aa"), "-12 at 0");
        Check.due("27: a part twice", Check.defineAnswer(x, "r=1aa+1aa"), "-14 at 7");
        Check.due("27: a TUBE that is a mix", Check.defineAnswer(x, "r=1p"), "-14 at 3");
        Check.due("27: errors change nothing", x.size(2) + " " + x.undoCount(), "4 4");
        x.retire(0, true);
        Check.due("27: a tube that is retired was told", Check.define(x, "r=1aa") + " " + x.mix(4, 5), "4 1");
    }

    private static void defineOfTwenty() {
        PaletteTubes x = Check.loaded("palette; tube a 1 1 1;");
        for (int i = 0; i < 20; i++) {
            Check.due("27: the number of the mix", Check.define(x, "m" + (char) ('a' + i) + "=1a"), i);
        }
        Check.due("27: 3 for a NEW that would be the 21st", Check.defineAnswer(x, " z=1a"), "-13 at 1");
        Check.due("27: at NEW, though more is wrong", Check.defineAnswer(x, "z=#"), "-13 at 0");
        Check.due("27: 2 is the smaller code", Check.defineAnswer(x, "abcdefghi=1a"), "-12 at 0");
        Check.due("27: a NEW that a mix has is no error", Check.defineAnswer(x, "mt=2a") + " " + Check.defineAnswer(x, "ma=3a"), "19 at -1 0 at -1");
        Check.due("27: a NEW that a tube has", Check.defineAnswer(x, "a=1a"), "-13 at 0");
        Check.due("28: how many are left", x.forget(5), 19);
        Check.due("27: room again", Check.define(x, "z=1a"), 19);
        Check.due("27: full again", Check.define(x, "mf=1a"), -13);
    }

    private static void forget() {
        PaletteTubes x = small();
        for (int bad : new int[] {-1, 3, 20, Check.LEAST, Check.GREATEST}) {
            Check.none("28: " + bad, () -> x.forget(bad));
        }
        Check.due("28: the last", x.forget(2) + " " + x.tube(1, 5), "2 1");
        Check.none("28: not twice", () -> x.forget(2));
        Check.due("28: the first", x.forget(0) + " " + Check.mix(x, 0), "1 nn=2b+1aa");
        Check.due("28: the only one", x.forget(0) + " " + x.size(2), "0 0");
        Check.none("28: none is left", () -> x.forget(0));
        Check.due("28: its name is free", Check.define(x, "m=1b"), 0);
    }

    private static void retire() {
        PaletteTubes x = small();
        Check.noneOutside("29: tube, retired", 0, 1, tube -> x.retire(tube, true));
        Check.noneOutside("29: tube, in use", 0, 1, tube -> x.retire(tube, false));
        Check.due("29: how many are broken then", x.retire(1, true) + " " + x.retire(0, true) + " " + x.retire(1, false) + " "
            + x.retire(0, false), "2 3 3 0");
        Check.due("29: again", x.retire(1, true) + " " + x.retire(1, true) + " " + x.size(1), "2 2 1");
        Check.due("29: its drops stay", x.tube(1, 3) + " " + x.size(9), "80 120");
        Check.due("29: without mixes", Check.loaded("palette; tube a 1 1 1;").retire(0, true), 0);
    }

    private static void heal() {
        PaletteTubes x = Check.loaded("palette tolerance 0; tube a 10 0 0; tube b 10 0 0; tube c 0 0 0; mix m=3a; mix n=1c; mix o=1a+1c;");
        for (int bad : new int[] {-1, 3, Check.LEAST, Check.GREATEST}) {
            Check.none("30: " + bad, () -> x.heal(bad));
        }
        Check.due("30: -2 if it is not broken", x.heal(0), -2);
        x.retire(0, true);
        Check.due("30: 0 far, with TOLERANCE 0", x.heal(0) + " " + Check.mix(x, 0), "0 m=1b");
        Check.due("30: not twice", x.heal(0), -2);
        x.retire(1, true);
        Check.due("30: -4 if it is more than TOLERANCE far", x.heal(0), -4);
        x.setTolerance(199);
        Check.due("30: -4 if it is 1 more", x.heal(0), -4);
        x.setTolerance(200);
        Check.due("30: as far as TOLERANCE", x.heal(0) + " " + Check.mix(x, 0), "200 m=1c");
        x.retire(2, true);
        Check.due("30: -3 if no tube is in use", x.heal(0) + " " + x.heal(1) + " " + x.heal(2), "-3 -3 -3");
        x.setTolerance(99999);
        Check.due("30: -3 with the greatest TOLERANCE", x.heal(0), -3);
        Check.due("30: its name stays", Check.name(x, true, 0) + " " + x.size(2), "m 3");
        PaletteTubes y = Check.loaded("palette tolerance 99999; tube a 255 255 255; tube b 0 0 0; mix m=1a;");
        y.retire(0, true);
        Check.due("30: far above the greatest TOLERANCE", y.heal(0), -4);
    }

    private static void healOrder() {
        PaletteTubes x = Check.loaded("palette most 6 tolerance 99999; tube a 60 0 0; tube b 0 60 0; tube c 0 0 60; tube d 10 20 30;"
            + "mix m=3d; mix n=1d+3c+2b+1a; mix o=1b+1d;");
        x.retire(3, true);
        Check.due("30: three tubes, in ascending order", x.heal(0) + " " + Check.mix(x, 0) + " " + x.mix(0, 4), "0 m=1a+2b+3c 6");
        Check.due("30: four become at most 3", x.heal(1) >= 0 && x.mix(1, 3) <= 3, true);
        Check.due("30: in ascending order", x.partOf(1, 0, false) < x.partOf(1, 1, false), true);
        int far = x.loss(2);
        Check.due("30: how far this is from the colour that it had", x.heal(2), far);
        Check.due("30: none is broken", x.size(3), 0);
        Check.due("30: undone", x.undo() + " " + Check.mix(x, 2), "3 o=1b+1d!");
        PaletteTubes y = Check.loaded("palette tolerance 99999; tube a 60 0 0 0; tube b 50 0 0; mix m=1b;");
        y.retire(1, true);
        Check.due("30: whatever is left in them", y.heal(0) + " " + Check.mix(y, 0), "200 m=1a");
    }

    /** All that is told of a mix of four tubes that is healed by one is as if it had been told so. */
    private static void healedToFewerTubes() {
        String tubes = "palette tolerance 99999; tube a 80 0 0 900; tube b 0 80 0 900; tube c 0 0 80 900; tube d 40 40 40 900; tube e 20 20 20 900;";
        PaletteTubes x = Check.loaded(tubes + "mix m=2a+2b+2c+9d;");
        x.setMost(1);
        x.retire(0, true);
        Check.due("30: becomes the nearest mix", x.heal(0) + " " + Check.mix(x, 0), x.apart(0x232323, 0x282828) + " m=1d");
        PaletteTubes y = Check.loaded(tubes + "mix m=1d;");
        y.setMost(1);
        y.retire(0, true);
        Check.due("30: its numbers", x.mix(0, 0) + " " + x.mix(0, 1) + " " + x.mix(0, 2) + " " + x.mix(0, 3) + " " + x.mix(0, 4) + " " + x.mix(0, 5),
            "40 40 40 1 1 0");
        Check.due("30: its strokes", x.strokes(0) + " " + x.shortest(0), "900 3");
        Check.none("30: its tubes", () -> x.partOf(0, 1, false));
        Check.due("30: what uses the tubes", x.tube(0, 5) + " " + x.tube(1, 5) + " " + x.tube(2, 5) + " " + x.tube(3, 5), "0 0 0 1");
        Check.due("30: a query", Check.queryAnswer(x, "many parts=1 and tubes=1 and red=40 and strokes=900"), "1 at -1");
        Check.due("30: painted", x.paint(0, 0, 9) + " " + Check.state(x), y.paint(0, 0, 9) + " " + Check.state(y));
        Check.due("30: retired tubes that it had", x.retire(1, true) + " " + x.size(3), "0 0");
    }

    private static void paint() {
        PaletteTubes x = Check.loaded("palette brushes 2; tube a 1 2 3 198; tube b 4 5 6 891; tube c 0 0 0 0; mix m=2a+9b; mix n=1a; mix o=1c;");
        Check.noneOutside("31: brush", 0, 1, brush -> x.paint(brush, 2, 1));
        Check.noneOutside("31: mix", 0, 2, mix -> x.paint(0, mix, 99) + x.undo());
        PaletteTubes y = Check.loaded("palette brushes 2; tube a 1 2 3 198; tube b 4 5 6 891; tube c 0 0 0 0; mix m=2a+9b; mix n=1a; mix o=1c;");
        Check.illegalOutside("31: strokes", 1, 99, strokes -> y.paint(0, 1, strokes));
        y.undo();
        y.undo();
        Check.due("31: 99 strokes, to the last drop", y.paint(1, 0, 99) + " " + y.tube(0, 3) + " " + y.tube(1, 3), 0x030405 + " 0 0");
        Check.due("31: -3, nothing is left", y.paint(1, 0, 1) + " " + y.paint(1, 1, 1) + " " + y.paint(1, 2, 1), "-3 -3 -3");
        y.refill(0, 2);
        y.refill(1, 8);
        Check.due("31: -3 if one of its tubes has 1 drop too few", y.paint(1, 0, 1), -3);
        y.refill(1, 1);
        Check.due("31: just enough", y.paint(1, 0, 1) + " " + y.tube(0, 3) + " " + y.tube(1, 3), 0x030405 + " 0 0");
        y.retire(1, true);
        Check.due("31: -2 if the mix is broken", y.paint(1, 0, 1), -2);
        y.retire(1, false);
        Check.due("31: -3 again", y.paint(1, 0, 1), -3);
        Check.none("31: no such brush, checked first", () -> y.paint(2, 0, 0));
        Check.none("31: no such mix, checked first", () -> y.paint(0, 3, 100));
    }

    private static void clean() {
        PaletteTubes x = Check.loaded("palette brushes 3;");
        Check.noneOutside("32: brush", 0, 2, x::clean);
        Check.due("32: a clean one", x.clean(2) + " " + x.size(7), "0 0");
        PaletteTubes y = Check.loaded("palette; tube a 1 1 1; mix m=1a;");
        y.paint(0, 0, 1);
        Check.due("32: the other brush", y.clean(1) + " " + y.brush(0, 3), "0 1");
        Check.due("32: the turbidity of the water then", y.clean(0) + " " + y.brush(0, 3), "1 0");
    }

    private static void change() {
        PaletteTubes x = Check.loaded("palette; tube a 1 1 1; mix m=1a;");
        Check.due("33: clean water", x.change() + " " + x.size(7), "0 0");
        for (int i = 0; i < 4; i++) {
            for (int strokes = 0; strokes < 3; strokes++) {
                x.paint(0, 0, 1);
            }
            x.clean(0);
        }
        Check.due("33: the turbidity that it had", x.size(7) + " " + x.change() + " " + x.size(7) + " " + x.change(), "9 9 0 0");
        Check.due("33: the dirt stays", x.brush(0, 3), 1);
        Check.due("33: undone", x.undo() + " " + x.size(7) + " " + x.undo() + " " + x.size(7), "9 0 8 9");
    }

    private static void refill() {
        PaletteTubes x = Check.loaded("palette; tube a 1 1 1 0; tube b 1 1 1 9000; tube c 1 1 1 9999;");
        Check.noneOutside("34: tube", 0, 2, tube -> x.refill(tube, 1));
        PaletteTubes y = Check.loaded("palette; tube a 1 1 1 0; tube b 1 1 1 9000; tube c 1 1 1 9999;");
        Check.illegalOutside("34: drops", 1, 999, drops -> y.refill(0, drops));
        Check.due("34: the drops that are left then", y.tube(0, 3) + " " + y.size(9), "1000 19999");
        Check.due("34: to 9999", y.refill(1, 999) + " " + y.tube(1, 3), "9999 9999");
        Check.due("34: -2 if they would be more than 9999", y.refill(1, 1) + " " + y.refill(2, 1) + " " + y.refill(2, 999), "-2 -2 -2");
        y.undo();
        y.refill(1, 1);
        Check.due("34: -2 if they would be 10000", y.refill(1, 999) + " " + y.tube(1, 3) + " " + y.refill(1, 998), "-2 9001 9999");
        y.retire(0, true);
        Check.due("34: not in use", y.refill(0, 1), 1001);
        Check.none("34: checked first", () -> y.refill(3, 0));
        Check.none("34: checked first", () -> y.refill(-1, 1000));
    }

    private static void settings() {
        PaletteTubes x = new PaletteTubes();
        Check.illegalOutside("35: most", 1, 6, x::setMost);
        Check.due("35: MOST before", x.size(5) + " " + x.setMost(1) + " " + x.setMost(6) + " " + x.size(5), "6 6 1 6");
        Check.illegalOutside("36: tolerance", 0, 99999, x::setTolerance);
        Check.due("36: TOLERANCE before", x.size(6) + " " + x.setTolerance(0) + " " + x.setTolerance(1) + " " + x.size(6), "99999 99999 0 1");
    }

    private static void format() {
        PaletteTubes x = Check.loaded("palette; tube a 0 0 0; tube bbbbbbbb 0 0 0; tube cccccccc 0 0 0; tube dddddddd 0 0 0; tube eeeeeeee 0 0 0;"
            + "mix m=1a; mix mmmmmmmm=009bbbbbbbb+9cccccccc+9dddddddd+09eeeeeeee; mix n=2eeeeeeee+1a;");
        Check.noneOutside("37: mix", 0, 2, x::format);
        Check.due("37: the shortest", x.format(0) + " " + Check.formatted(x), "4 m=1a");
        Check.due("37: the order in which they were told", x.format(2) + " " + Check.formatted(x), "14 n=2eeeeeeee+1a");
        x.retire(4, true);
        Check.due("37: the longest, and '!'", x.format(1) + " " + Check.formatted(x),
            "49 mmmmmmmm=9bbbbbbbb+9cccccccc+9dddddddd+9eeeeeeee!");
        Check.due("37: a shorter one behind it", x.format(0) + " " + Check.formatted(x) + " " + x.formattedByte(4), "4 m=1a -1");
        x.retire(4, false);
        Check.due("37: not broken any more", x.format(2), 14);
    }

    private static void formattedByte() {
        PaletteTubes x = small();
        for (int index : new int[] {0, -1, 1, Check.LEAST, Check.GREATEST}) {
            Check.due("38: NONE, there was no such call, " + index, x.formattedByte(index), -1);
        }
        Check.none("38: a call of format that throws", () -> x.format(3));
        Check.due("38: NONE, none that answered", x.formattedByte(0), -1);
        x.format(1);
        Check.due("38: the first and the last", x.formattedByte(0) + " " + x.formattedByte(8), (int) 'n' + " " + (int) 'a');
        for (int index : new int[] {9, 10, 900, -1, -9, Check.LEAST, Check.GREATEST}) {
            Check.due("38: NONE if index is out of range, " + index, x.formattedByte(index), -1);
        }
        Check.none("38: a call of format that throws", () -> x.format(-1));
        Check.due("38: leaves the text", Check.formatted(x), "nn=2b+1aa");
        x.retire(0, true);
        x.forget(1);
        Check.define(x, "nn=1b");
        Check.due("38: as it was then", Check.formatted(x), "nn=2b+1aa");
    }

    private static void undo() {
        PaletteTubes x = small();
        Check.due("40: NONE if there was nothing to undo", x.undoCount() + " " + x.undo() + " " + x.undo() + " " + x.undoCount(), "0 -1 -1 0");
        x.change();
        Check.due("39: one", x.undoCount() + " " + x.undo() + " " + x.undoCount() + " " + x.undo(), "1 0 0 -1");
        for (int i = 0; i < 10; i++) {
            x.change();
        }
        Check.due("39: ten", x.undoCount(), 10);
        x.change();
        Check.due("39: at most ten", x.undoCount() + " " + x.undo() + " " + x.undoCount(), "10 9 9");
        x.saveSnapshot();
        x.restoreSnapshot();
        Check.due("42: clears the undo history", x.undoCount() + " " + x.undo(), "0 -1");
    }

    private static void snapshot() {
        PaletteTubes x = small();
        x.setMost(1);
        Check.due("42: false if there is no snapshot (nothing changes)", x.restoreSnapshot() + " " + x.size(5) + " " + x.undoCount(), "false 1 1");
        x.saveSnapshot();
        x.setMost(2);
        Check.due("41: leaves the undo history", x.undoCount(), 2);
        x.saveSnapshot();
        x.setMost(3);
        Check.due("41: replaces an earlier snapshot", x.restoreSnapshot() + " " + x.size(5), "true 2");
        x.setMost(5);
        Check.due("42: the snapshot is kept", x.restoreSnapshot() + " " + x.size(5) + " " + x.restoreSnapshot() + " " + x.size(5), "true 2 true 2");
        Check.load(x, "palette");
        Check.due("3: an error of load leaves it", x.restoreSnapshot(), true);
        Check.load(x, "palette;");
        Check.due("3: load discards it", x.restoreSnapshot() + " " + x.size(5), "false 4");
        PaletteTubes y = new PaletteTubes();
        y.saveSnapshot();
        Check.due("41: of nothing", y.restoreSnapshot() + " " + Check.state(y), "true " + Check.state(new PaletteTubes()));
    }

    private static void query() {
        PaletteTubes x = small();
        Check.due("43: 200 bytes", Check.queryAnswer(x, blanksTo(199, "many 1=1") + "\n"), "3 at -1");
        Check.due("43: an error at the last of 200", Check.queryAnswer(x, blanksTo(199, "many 1=1") + ")"), "error 1 at 199");
        Check.feed(x, blanksTo(220, "first mix=2"));
        for (int bad : new int[] {-1, 201, 220, 221, Check.LEAST, Check.GREATEST}) {
            Check.illegal("43: length " + bad, () -> x.query(bad));
        }
        Check.due("43: nothing changes", x.errorPosition() + " " + x.query(200), "199 2");
        Check.feed(x, "many 1=10");
        Check.illegal("43: more than there is", () -> x.query(21));
        Check.due("43: the first bytes alone", x.query(8), 3);
        Check.illegal("43: the buffer is empty afterwards", () -> x.query(1));
        Check.query(x, "many");
        Check.illegal("43: also after an error", () -> x.query(1));
        Check.due("43: nothing", x.query(0) + " " + x.errorPosition(), "-1000000001 0");
        Check.due("43: HIDDEN minus the error code", Check.query(x, "many 10000=1") + " " + Check.query(x, "many (((((((1=1"),
            "-1000000002 -1000000003");
        Check.due("43: as many as there are bytes for", Check.queryAnswer(x, "many 1=2" + "or 1=2".repeat(31) + "or 1=1"), "3 at -1");
        Check.due("43: no mixes", Check.queryAnswer(new PaletteTubes(), "many 1=1") + ", " + Check.queryAnswer(new PaletteTubes(), "first 1=1"),
            "0 at -1, -1 at -1");
        Check.due("43: changes nothing", Check.state(x) + x.undoCount(), Check.state(small()) + 0);
    }

    private static void queryOfTwenty() {
        StringBuilder text = new StringBuilder("palette; tube a 0 0 0 9999; tube b 255 255 255 0;");
        for (int i = 0; i < 20; i++) {
            text.append("mix m").append((char) ('a' + i)).append('=').append(1 + i % 9).append(i < 19 ? "a;" : "b;");
        }
        PaletteTubes x = Check.loaded(text.toString());
        Check.due("43: the first of 20", Check.queryAnswer(x, "first parts=1"), "0 at -1");
        Check.due("43: the last of 20", Check.queryAnswer(x, "first red=255 and green=255 and blue=255 and strokes=0"), "19 at -1");
        Check.due("43: none of 20", Check.queryAnswer(x, "first parts>9"), "-1 at -1");
        Check.due("43: all of 20", Check.queryAnswer(x, "many parts<10"), "20 at -1");
        Check.due("43: 19 of 20", Check.queryAnswer(x, "many not red=255"), "19 at -1");
        Check.due("43: the most strokes", Check.queryAnswer(x, "many strokes=9999"), "3 at -1");
        x.retire(1, true);
        Check.due("43: the last is broken", Check.queryAnswer(x, "first broken=1"), "19 at -1");
        x.forget(0);
        Check.due("43: 19 are left", Check.queryAnswer(x, "many not 1=2") + " " + Check.queryAnswer(x, "first not mix<18"), "19 at -1 18 at -1");
        for (int i = 0; i < 19; i++) {
            x.forget(0);
        }
        Check.due("43: none is left", Check.queryAnswer(x, "many not 1=2") + " " + Check.queryAnswer(x, "first not 1=2"), "0 at -1 -1 at -1");
    }
}
