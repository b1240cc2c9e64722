/** At least one test for every promise: ordinary inputs, the edges that the document names, and wrong inputs. */
public final class PromiseTest {
    /** Red, green, blue, white, a dark grey of few drops; mixes of them. */
    private static final String PALETTE = "palette brushes 3 most 4 tolerance 300;"
        + "tube red 255 0 0 50; tube green 0 255 0; tube blue 0 0 255 9; tube white 255 255 255 9999; tube grey 10 20 30 0;"
        + "mix orange = 2 red + 1 green; mix violet = 1 blue + 1 red; mix four = 9 white + 1 red + 2 green + 3 blue;";

    private static final int LAST = Integer.MAX_VALUE;
    private static final int FIRST = Integer.MIN_VALUE;

    public static void main(String[] args) {
        newObject();
        feeding();
        loading();
        loadErrors();
        loadLimits();
        errorPositions();
        sizes();
        tubesAndMixes();
        partsAndLetters();
        mixing();
        distances();
        nearestMixes();
        nearestOrder();
        strokesAndShortest();
        paintingColours();
        paintingsKept();
        cleaning();
        spareClosestTwins();
        lossAndShares();
        defining();
        forgetting();
        retiring();
        healing();
        painting();
        refilling();
        settings();
        formatting();
        undoing();
        undoingEachOperation();
        notRecorded();
        snapshots();
        queries();
        queryErrors();
        Check.end("PromiseTest");
    }

    private static void newObject() {
        PaletteTubes x = new PaletteTubes();
        int[] sizes = {0, 0, 0, 0, 2, 4, 300, 0, 0, 0};
        for (int what = 0; what < sizes.length; what++) {
            Check.due("1: size " + what, x.size(what), sizes[what]);
        }
        Check.due("1: brush 1", x.brush(1, 0) + x.brush(1, 1) + x.brush(1, 2) + x.brush(1, 3), 0);
        Check.due("1: undo", x.undo(), -1);
        Check.due("1: undoCount", x.undoCount(), 0);
        Check.due("1: snapshot", x.restoreSnapshot(), false);
        Check.due("1: error", x.errorPosition(), -1);
        Check.due("1: formatted", x.formattedByte(0), -1);
        Check.illegal("1: buffer", () -> x.load(1));
        Check.due("constants", PaletteTubes.NONE + ":" + PaletteTubes.HIDDEN, "-1:-1000000000");
    }

    private static void feeding() {
        PaletteTubes x = new PaletteTubes();
        for (int i = 1; i <= 45; i++) {
            Check.due("2: feed " + i, x.feed(0x20202020, 0x20202020, 0x20202020, 0x20202020, 0x20202020), 20 * i);
        }
        Check.due("2: full", x.feed(0, 0, 0, 0, 0), -1);
        Check.due("2: full, length 900", x.load(900), -11);
        Check.due("2: position", x.errorPosition(), 900);
        Check.due("2: empty again", x.feed(0x70616c65, 0x7474653b, 0x74756265, 0x20612031, 0x20322033), 20);
        Check.due("2: next", x.feed(0x3bff0000, 0, 0, 0, 0), 40);
        Check.due("2: order of the bytes", x.load(21), 1);
        Check.due("2: value", x.tube(0, 2), 3);
    }

    private static void loading() {
        PaletteTubes x = Check.loaded(PALETTE);
        Check.due("3: sizes", x.size(0) + " " + x.size(2) + " " + x.size(4) + " " + x.size(5) + " " + x.size(6), "5 3 3 4 300");
        Check.due("3: drops without a number", x.tube(1, 3), 100);
        Check.due("3: no error", x.errorPosition(), -1);
        x.change();
        x.saveSnapshot();
        x.paint(0, 0, 1);
        x.format(0);
        Check.due("3: with an error", Check.load(x, "palette"), -11);
        Check.due("3: which position", x.errorPosition(), 7);
        Check.due("3: which changes nothing", x.size(0) + " " + x.undoCount() + " " + x.size(8), "5 2 1");
        Check.illegal("3: but the buffer", () -> x.load(1));
        Check.due("3: and not the snapshot", x.restoreSnapshot(), true);
        x.clean(0);
        Check.due("3: anew", Check.load(x, "palette\nmost 6 tolerance 0;\n"), 0);
        Check.due("3: everything is new", x.size(0) + " " + x.size(2) + " " + x.size(4) + " " + x.size(5) + " " + x.size(6)
            + " " + x.size(8), "0 0 2 6 0 0");
        Check.due("3: undo is discarded", x.undoCount() + " " + x.undo(), "0 -1");
        Check.due("3: the snapshot too", x.restoreSnapshot(), false);
        Check.due("38: the text of format stays", Check.formatted(x, 17), "orange=2red+1gree");
        int length = Check.feed(x, "palette;");
        Check.illegal("3: negative", () -> x.load(-1));
        Check.illegal("3: least", () -> x.load(FIRST));
        Check.illegal("3: more than there is", () -> x.load(21));
        Check.illegal("3: most", () -> x.load(LAST));
        Check.due("3: the buffer stays then", x.load(length), 0);
        Check.feed(x, "palette;   ");
        Check.due("3: only the first bytes", x.load(8), 0);
        Check.illegal("3: all of the buffer is gone", () -> x.load(1));
        Check.due("3: nothing", x.load(0) + " " + x.errorPosition(), "-11 0");
    }

    private static void loadError(String text, int code, int position) {
        PaletteTubes x = new PaletteTubes();
        Check.due("3: " + text, Check.load(x, text) + " at " + x.errorPosition(), (-10 - code) + " at " + position);
    }

    private static void loadErrors() {
        loadError("palett;", 1, 0);
        loadError("palettes;", 1, 0);
        loadError("qalette;", 1, 0);
        loadError("palette; cube a 1 2 3;", 1, 9);
        loadError("palette; tube ;", 1, 14);
        loadError("palette; mix ;", 1, 13);
        loadError("  \n ", 1, 4);
        loadError("palette tube", 1, 8);
        loadError("palette;;", 1, 8);
        loadError("palette; tube a 1 2 3", 1, 21);
        loadError("palette; tube a 1 2 ;", 1, 20);
        loadError("palette; tube a 1 2 3 4 5;", 1, 24);
        loadError("palette; tube 1 2 3;", 1, 14);
        loadError("palette; Tube a 1 2 3;", 1, 9);
        loadError("palette; tube a\t1 2 3;", 1, 15);
        loadError("palette; tube \u00e9 1 2 3;", 1, 14);
        loadError("palette; tube a 1 2 (;", 1, 20);
        loadError("palette brushes;", 1, 15);
        loadError("palette brushes 0;", 2, 16);
        loadError("palette brushes 7;", 2, 16);
        loadError("palette most 0;", 2, 13);
        loadError("palette most 7;", 2, 13);
        loadError("palette tolerance 100000;", 2, 18);
        loadError("palette most 3 brushes 2;", 1, 15);
        loadError("palette tolerance 3 most 2;", 1, 20);
        loadError("palette; tube a 256 0 0;", 2, 16);
        loadError("palette; tube a 0 256 0;", 2, 18);
        loadError("palette; tube a 0 0 256;", 2, 20);
        loadError("palette; tube a 0 0 99999999999999999999;", 2, 20);
        loadError("palette; tube a 0 0 4294967296;", 2, 20);
        loadError("palette; tube a 0 0 0 10000;", 2, 22);
        loadError("palette; tube abcdefghi 0 0 0;", 2, 14);
        loadError("palette; tube tolerance 0 0 0;", 2, 14);
        loadError("palette; tube a 0 0 0; tube a 1 1 1;", 3, 28);
        loadError("palette; tube a 0 0 0; mix a = 1 a;", 3, 27);
        loadError("palette; tube a 0 0 0; mix b = 1 a; tube b 1 1 1;", 3, 41);
        loadError("palette; tube a 0 0 0; mix b = 1 a; mix b = 1 a;", 3, 40);
        loadError("palette; mix b = 1 a;", 4, 19);
        loadError("palette; tube a 0 0 0; mix b = 1 a + 2 a;", 4, 39);
        loadError("palette; tube a 0 0 0; mix b = 1 a; mix c = 1 b;", 4, 46);
        loadError("palette; tube abcdefgh 0 0 0; mix b = 1 abcdefghi;", 4, 40);
        loadError("palette; tube a 0 0 0; mix b 1 a;", 1, 29);
        loadError("palette; tube a 0 0 0; mix b = a;", 1, 31);
        loadError("palette; tube a 0 0 0; mix b = 1 ;", 1, 33);
        loadError("palette; tube a 0 0 0; mix b = 1 a + ;", 1, 37);
        loadError("palette; tube a 0 0 0; mix b = 1 a 2 a;", 1, 35);
        loadError("palette; tube a 0 0 0; mix b = 0 a;", 2, 31);
        loadError("palette; tube a 0 0 0; mix b = 10 a;", 2, 31);
        String four = "palette; tube a 0 0 0; tube b 0 0 0; tube c 0 0 0; tube d 0 0 0; tube e 0 0 0;"
            + "mix m = 1 a + 1 b + 1 c + 1 d";
        loadError(four + "+1e;", 3, 108);
        loadError(four + "+9e;", 3, 108);
        loadError(four + "+10e;", 2, 108);
        loadError(four + "+0e;", 2, 108);
        loadError(four + "+e;", 1, 108);
        loadError(four + "+", 1, 108);
    }

    private static void loadLimits() {
        StringBuilder text = new StringBuilder("palette;");
        for (int i = 0; i < 20; i++) {
            text.append("tube ").append((char) ('a' + i)).append(" 1 2 3;");
        }
        String tubes = text.toString();
        Check.due("3: 20 tubes", Check.load(new PaletteTubes(), tubes), 20);
        loadError(tubes + "tube z 1 2 3;", 3, tubes.length());
        loadError(tubes + "tube", 3, tubes.length());
        for (int i = 0; i < 20; i++) {
            text.append("mix m").append((char) ('a' + i)).append("=1a;");
        }
        String mixes = text.toString();
        PaletteTubes x = Check.loaded(mixes);
        Check.due("3: 20 mixes", x.size(2), 20);
        Check.due("6: all use it", x.tube(0, 5), 20);
        loadError(mixes + "mix z=1a;", 3, mixes.length());
        Check.due("27: the 21st", Check.define(x, "z=1a") + " " + x.errorPosition(), "-13 0");
        Check.due("27: one that there is", Check.define(x, "mt=2b"), 19);
        Check.due("3: one brush", Check.loaded("palette brushes 1 most 1;").size(4), 1);
        Check.due("3: six brushes", Check.loaded("palette brushes 6 most 6;").size(4), 6);
        Check.due("3: words as names, numbers with zeros", Check.load(new PaletteTubes(), "palette brushes 006 most 01 tolerance 099999;"
            + "tube tube 000255 0 0 0009999;tube mix 1 1 1;mix palette=9tube+01mix;mix most=1mix;mix brushes=1mix;"), 2);
        Check.due("3: no blanks between", Check.load(new PaletteTubes(), "palette brushes6most1tolerance7;tube a1 2 3;mix b=1a;"), 1);
    }

    private static void errorPositions() {
        PaletteTubes x = Check.loaded(PALETTE);
        Check.define(x, "new = ");
        Check.due("4: define", x.errorPosition(), 6);
        Check.illegal("4: a call that does not read", () -> x.define(1));
        Check.due("4: stays", x.errorPosition(), 6);
        Check.mixed(x, "1 red");
        Check.due("4: mixed without error", x.errorPosition(), -1);
        Check.mixed(x, " nothing");
        Check.due("4: mixed", x.errorPosition(), 1);
        x.change();
        x.undo();
        Check.due("4: not undone", x.errorPosition(), 1);
        Check.query(x, "many");
        Check.due("4: query", x.errorPosition(), 4);
        Check.query(x, "many 1=1");
        Check.due("4: query without error", x.errorPosition(), -1);
    }

    private static void sizes() {
        PaletteTubes x = Check.loaded(PALETTE);
        x.retire(0, true);
        x.paint(0, 0, 1);
        x.retire(0, false);
        x.paint(0, 0, 2);
        x.paint(1, 0, 1);
        x.clean(0);
        x.setMost(3);
        x.setTolerance(7);
        x.retire(2, true);
        int[] sizes = {5, 4, 3, 2, 3, 3, 7, 1, 2, 50 + 100 + 9 + 9999 - 9};
        for (int what = 0; what < sizes.length; what++) {
            Check.due("5: size " + what, x.size(what), sizes[what]);
        }
        for (int what : new int[] {-1, 10, FIRST, LAST}) {
            Check.none("5: size " + what, () -> x.size(what));
        }
    }

    private static void tubesAndMixes() {
        PaletteTubes x = Check.loaded(PALETTE);
        x.retire(4, true);
        int[] grey = {10, 20, 30, 0, 0, 0};
        int[] red = {255, 0, 0, 50, 1, 3};
        int[] orange = {170, 85, 0, 2, 3, 0};
        int[] four = {170, 187, 204, 4, 15, 0};
        for (int what = 0; what < 6; what++) {
            Check.due("6: grey " + what, x.tube(4, what), grey[what]);
            Check.due("6: red " + what, x.tube(0, what), red[what]);
            Check.due("7: orange " + what, x.mix(0, what), orange[what]);
            Check.due("7: four " + what, x.mix(2, what), four[what]);
        }
        x.retire(2, true);
        Check.due("7: broken", x.mix(0, 5) + " " + x.mix(1, 5) + " " + x.mix(2, 5), "0 1 1");
        Check.due("6: broken ones, too", x.tube(2, 5), 2);
        for (int bad : new int[] {-1, 6, FIRST, LAST}) {
            Check.none("6: tube " + bad, () -> x.tube(bad, 0));
            Check.none("6: what " + bad, () -> x.tube(0, bad));
            Check.none("7: mix " + bad, () -> x.mix(bad, 0));
            Check.none("7: what " + bad, () -> x.mix(0, bad));
        }
        Check.none("6: behind the last", () -> x.tube(5, 0));
        Check.none("7: behind the last", () -> x.mix(3, 0));
    }

    private static void partsAndLetters() {
        PaletteTubes x = Check.loaded(PALETTE + "tube abcdefgh 0 0 0;mix stuvwxyz=7abcdefgh;");
        int[] tubes = {3, 0, 1, 2};
        int[] parts = {9, 1, 2, 3};
        for (int i = 0; i < 4; i++) {
            Check.due("8: tube " + i, x.partOf(2, i, false), tubes[i]);
            Check.due("8: parts " + i, x.partOf(2, i, true), parts[i]);
        }
        for (int bad : new int[] {-1, 4, FIRST, LAST}) {
            Check.none("8: i " + bad, () -> x.partOf(2, bad, true));
            Check.none("8: mix " + bad, () -> x.partOf(bad, 0, true));
            Check.none("9: mix " + bad, () -> x.letter(true, bad, 0));
            Check.none("9: mix " + bad, () -> x.letter(true, bad, -1));
        }
        Check.none("8: two tubes", () -> x.partOf(0, 2, false));
        Check.none("9: tube", () -> x.letter(false, 6, 0));
        Check.none("9: tube", () -> x.letter(false, -1, 0));
        Check.due("9: first", x.letter(true, 3, 0), (int) 's');
        Check.due("9: eighth", x.letter(true, 3, 7), (int) 'z');
        Check.due("9: ninth", x.letter(true, 3, 8), -1);
        Check.due("9: tube's", x.letter(false, 5, 7), (int) 'h');
        Check.due("9: behind a short one", x.letter(false, 0, 2) + " " + x.letter(false, 0, 3), "100 -1");
        Check.due("9: negative, greatest", x.letter(true, 0, -1) + " " + x.letter(true, 0, LAST), "-1 -1");
    }

    private static void mixing() {
        PaletteTubes x = Check.loaded(PALETTE);
        Check.due("10: half upward", Check.mixed(x, "1 red + 1 blue"), 0x800080);
        Check.due("10: a third", Check.mixed(x, "1 red+2 green"), 0x55aa00);
        Check.due("10: one tube", Check.mixed(x, "9 grey"), 0x0a141e);
        Check.due("10: four", Check.mixed(x, "9white+1red+2green+3blue"), 0xaabbcc);
        x.retire(0, true);
        Check.due("10: a retired tube is a tube", Check.mixed(x, "1 red"), 0xff0000);
        Check.due("10: no name", Check.mixed(x, "a = 1 red") + " " + x.errorPosition(), "-11 0");
        Check.due("10: nothing", Check.mixed(x, "") + " " + x.errorPosition(), "-11 0");
        Check.due("10: more", Check.mixed(x, "1 red;") + " " + x.errorPosition(), "-11 5");
        Check.due("10: parts", Check.mixed(x, "10 red") + " " + x.errorPosition(), "-12 0");
        Check.due("10: fifth", Check.mixed(x, "1red+1green+1blue+1white+1grey") + " " + x.errorPosition(), "-13 25");
        Check.due("10: unknown", Check.mixed(x, "1 orange") + " " + x.errorPosition(), "-14 2");
        Check.due("10: twice", Check.mixed(x, "1 red + 1 red") + " " + x.errorPosition(), "-14 10");
        for (int i = 0; i < 11; i++) {
            Check.feed(x, "1 red               ");
        }
        Check.illegal("10: 201", () -> x.mixed(201));
        Check.illegal("10: -1", () -> x.mixed(-1));
        Check.due("10: 200", x.mixed(200) + " " + x.errorPosition(), "-11 20");
        Check.illegal("10: the buffer is empty", () -> x.mixed(1));
        Check.due("10: is no operation", x.undoCount(), 1);
    }

    private static void distances() {
        PaletteTubes x = Check.loaded(PALETTE);
        Check.due("11: all", x.apart(0, 0xffffff), 9 * 255 * 255);
        Check.due("11: each", x.apart(0x010203, 0), 2 + 16 + 27);
        Check.due("11: red", x.apart(0x100000, 0x0f0000) + " " + x.apart(0x001000, 0x000e00) + " " + x.apart(3, 0), "2 16 27");
        for (int bad : new int[] {-1, 16777216, FIRST, LAST}) {
            Check.illegal("11: first " + bad, () -> x.apart(bad, 0));
            Check.illegal("11: second " + bad, () -> x.apart(0, bad));
            Check.illegal("12: " + bad, () -> x.called(bad));
            Check.illegal("14: " + bad, () -> x.fewest(bad));
        }
        Check.due("12: orange", x.called(0xaa5500), 0);
        Check.due("12: violet", x.called(0x0000ff), 1);
        Check.due("12: four", x.called(0xffffff), 2);
        Check.define(x, "twin = 4 red + 2 green");
        Check.due("12: the smallest", x.called(0xaa5500), 0);
        x.retire(0, true);
        Check.due("12: a broken one", x.called(0xaa5500), 0);
        Check.due("12: none", new PaletteTubes().called(0), -1);
    }

    private static String nearest(PaletteTubes x, int colour, int k) {
        StringBuilder text = new StringBuilder();
        for (int what = 0; what < 10; what++) {
            text.append(what == 0 ? "" : " ").append(x.nearest(colour, k, what));
        }
        return text.toString();
    }

    private static void nearestMixes() {
        PaletteTubes x = Check.loaded(PALETTE);
        Check.due("13: one", nearest(x, 0xff0000, 3), "16711680 1 1 0 0 -1 -1 1 -1 -1");
        Check.due("13: k 1", nearest(x, 0x800080, 1), (0x0a141e) + " 1 1 " + (2 * 118 * 118 + 4 * 400 + 3 * 98 * 98)
            + " 4 -1 -1 1 -1 -1");
        Check.due("13: k 2", nearest(x, 0x800080, 2), 0x800080 + " 2 2 0 0 2 -1 1 1 -1");
        Check.due("13: k 3", nearest(x, 0x804040, 3), 0x804040 + " 3 4 0 0 1 2 2 1 1");
        Check.due("14: 1, 2, 3", x.fewest(0xff0000) + " " + x.fewest(0x800080) + " " + x.fewest(0x804040), "1 2 3");
        Check.due("14: none", x.fewest(0x00ffff), -1);
        x.setTolerance(3);
        Check.due("14: exactly TOLERANCE", x.fewest(0xff0001), 1);
        x.setTolerance(2);
        Check.due("14: more than TOLERANCE", x.fewest(0xff0001), -1);
        x.retire(0, true);
        Check.due("13: a retired tube", x.nearest(0xff0000, 1, 4), 4);
        x.retire(0, false);
        x.setMost(1);
        Check.due("13: MOST 1", x.nearest(0x804040, 3, 1), 1);
        x.setMost(3);
        Check.due("13: MOST 3", x.nearest(0xaa5500, 3, 3), 0);
        x.setMost(2);
        Check.due("13: MOST 2", x.nearest(0xaa5500, 3, 3) > 0, true);
        x.setMost(6);
        Check.due("13: MOST 6", nearest(x, 0xd42b00, 3), 0xd52b00 + " 2 6 2 0 1 -1 5 1 -1");
        for (int tube = 0; tube < 5; tube++) {
            x.retire(tube, true);
        }
        Check.due("13: no tube", nearest(x, 0, 3), "-1 -1 -1 -1 -1 -1 -1 -1 -1 -1");
        Check.due("14: no tube", x.fewest(0), -1);
        for (int bad : new int[] {-1, 10, FIRST, LAST}) {
            Check.none("13: what " + bad, () -> x.nearest(0, 1, bad));
            Check.none("13: what first", () -> x.nearest(-1, 0, bad));
        }
        for (int bad : new int[] {0, 4, FIRST, LAST}) {
            Check.illegal("13: k " + bad, () -> x.nearest(0, bad, 0));
        }
        Check.illegal("13: colour", () -> x.nearest(-1, 1, 0));
        Check.illegal("13: colour", () -> x.nearest(16777216, 1, 0));
    }

    private static void nearestOrder() {
        PaletteTubes x = Check.loaded("palette most 6; tube a 100 0 0; tube b 0 0 0; tube c 200 0 0; tube d 100 0 0; tube e 0 0 0;");
        Check.due("Mixes: fewer tubes, the smaller tube", nearest(x, 0x640000, 3), 0x640000 + " 1 1 0 0 -1 -1 1 -1 -1");
        Check.due("Mixes: fewer parts, smaller tubes", nearest(x, 0x320000, 3), 0x320000 + " 2 2 0 0 1 -1 1 1 -1");
        x.retire(0, true);
        Check.due("Mixes: the smaller tube", nearest(x, 0x640000, 3), 0x640000 + " 1 1 0 3 -1 -1 1 -1 -1");
        x = Check.loaded("palette most 4; tube a 0 0 0; tube b 80 0 0; tube c 40 0 0; tube d 40 0 0;");
        x.retire(2, true);
        x.retire(3, true);
        Check.due("Mixes: two tubes", nearest(x, 0x140000, 3), 0x140000 + " 2 4 0 0 1 -1 3 1 -1");
        x = Check.loaded("palette most 6; tube a 0 0 0; tube b 0 0 0; tube c 100 0 0; tube d 50 0 0;");
        Check.due("Mixes: the smaller second tube", nearest(x, 0x210000, 3), 0x210000 + " 2 3 0 0 2 -1 2 1 -1");
        x = Check.loaded("palette most 5; tube a 0 0 0; tube b 2 0 0;");
        Check.due("Mixes: smaller parts", nearest(x, 0x010000, 2), 0x010000 + " 2 2 0 0 1 -1 1 1 -1");
        x = Check.loaded("palette most 3; tube a 0 0 0; tube b 1 0 0;");
        Check.due("Mixes: halves upward", nearest(x, 0x010000, 1), 0x010000 + " 1 1 0 1 -1 -1 1 -1 -1");
        x = Check.loaded("palette most 6; tube a 10 0 0; tube b 0 10 0; tube c 0 0 0;");
        Check.due("Mixes: three tubes", nearest(x, 0x020500, 3), 0x020500 + " 3 6 0 0 1 2 1 3 2");
    }

    private static void strokesAndShortest() {
        PaletteTubes x = Check.loaded(PALETTE);
        Check.due("15: orange", x.strokes(0), 25);
        Check.due("16: orange", x.shortest(0), 0);
        Check.due("15: violet", x.strokes(1), 9);
        Check.due("16: violet", x.shortest(1), 2);
        Check.due("15: four", x.strokes(2), 3);
        x.retire(0, true);
        Check.due("15: broken", x.strokes(0), 25);
        Check.define(x, "white = 1 white");
        Check.due("15: a tube's name", x.size(2), 3);
        Check.define(x, "snow = 1 white");
        Check.due("15: above 99", x.strokes(3), 9999);
        Check.define(x, "none = 1 white + 3 grey");
        Check.due("15: none", x.strokes(4) + " " + x.shortest(4), "0 4");
        x.refill(4, 9);
        x.refill(2, 1);
        Check.define(x, "equal = 3 blue + 3 grey + 9 white");
        Check.due("16: the smallest of several, not the first told", x.strokes(5) + " " + x.shortest(5), "3 2");
        Check.define(x, "equal = 3 grey + 3 blue");
        Check.due("16: the smallest tube", x.shortest(5), 2);
        for (int bad : new int[] {-1, 6, FIRST, LAST}) {
            Check.none("15: mix " + bad, () -> x.strokes(bad));
            Check.none("16: mix " + bad, () -> x.shortest(bad));
            Check.none("19: mix " + bad, () -> x.bestBrush(bad));
            Check.none("24: mix " + bad, () -> x.loss(bad));
        }
    }

    private static void paintingColours() {
        PaletteTubes x = Check.loaded(PALETTE);
        Check.due("17: clean", x.wouldPaint(0, 0), 0xaa5500);
        Check.due("19: the smallest", x.bestBrush(0), 0);
        Check.due("31: first", x.paint(0, 0, 1), 0xaa5500);
        Check.due("18: rest", x.brush(0, 0) + " " + x.brush(0, 1) + " " + x.brush(0, 2) + " " + x.brush(0, 3), "170 85 0 1");
        // (4 * 128 + 170) / 5 = 136.4, 85 / 5 = 17, 512 / 5 = 102.4
        Check.due("17: dirt 1", x.wouldPaint(0, 1), 0x881166);
        Check.due("17: is no painting", x.size(8) + " " + x.undoCount(), "1 1");
        Check.due("31: second", x.paint(0, 1, 1), 0x881166);
        // (4 * 170 + 2 * 136) / 6 = 158.67, (340 + 34) / 6 = 62.33, 204 / 6 = 34
        Check.due("17: dirt 2", x.wouldPaint(0, 0), 0x9f3e22);
        Check.due("19: a clean one", x.bestBrush(0), 1);
        x.paint(0, 0, 1);
        Check.due("18: dirt 3", x.brush(0, 3), 3);
        // (4 * 128 + 3 * 159) / 7 = 141.29, 186 / 7 = 26.57, (512 + 102) / 7 = 87.71
        Check.due("31: dirt 3", x.paint(0, 1, 1), 0x8d1b58);
        Check.due("18: at most 3", x.brush(0, 3), 3);
        x.retire(0, true);
        Check.due("17: broken", x.wouldPaint(1, 0), 0xaa5500);
        for (int bad : new int[] {-1, 3, FIRST, LAST}) {
            Check.none("17: brush " + bad, () -> x.wouldPaint(bad, 0));
            Check.none("17: mix " + bad, () -> x.wouldPaint(0, bad));
            Check.none("18: brush " + bad, () -> x.brush(bad, 0));
        }
        for (int bad : new int[] {-1, 4, FIRST, LAST}) {
            Check.none("18: what " + bad, () -> x.brush(0, bad));
        }
        PaletteTubes y = Check.loaded("palette; tube a 1 0 0; tube b 3 0 0; mix m = 1 a; mix n = 1 b;");
        y.paint(0, 1, 1);
        y.paint(0, 1, 1);
        // (4 * 1 + 2 * 3) / 6 = 1.67, and by a brush with dirt 1 and rest 3: 7 / 5 = 1.4
        y.paint(1, 1, 1);
        Check.due("19: nearer of two dirty ones", y.bestBrush(0), 1);
        Check.due("19: by the own colour", y.bestBrush(1), 0);
        PaletteTubes z = Check.loaded("palette; tube a 0 0 0; tube b 2 0 0; mix m = 1 a; mix n = 1 b;");
        z.paint(0, 1, 1);
        z.paint(0, 1, 1);
        z.clean(0);
        z.paint(0, 0, 1);
        z.paint(0, 1, 1);
        // dirt 2, rest (8 + 0) / 5 = 1.6 -> 2: 4 / 6 = 0.67
        Check.due("17: rounded upward", z.wouldPaint(0, 0), 0x010000);
    }

    private static void paintingsKept() {
        PaletteTubes x = Check.loaded(PALETTE);
        x.paint(1, 0, 2);
        x.paint(1, 1, 3);
        Check.due("20: latest first", x.painting(0, 0) + " " + x.painting(0, 1) + " " + x.painting(0, 2) + " " + x.painting(0, 3),
            0x881166 + " 1 3 " + 0x800080);
        Check.due("20: then the first", x.painting(1, 0) + " " + x.painting(1, 1) + " " + x.painting(1, 2) + " " + x.painting(1, 3),
            0xaa5500 + " 1 2 " + 0xaa5500);
        Check.define(x, "orange = 1 white");
        Check.due("20: as it was then", x.painting(1, 3), 0xaa5500);
        for (int strokes = 1; strokes <= 11; strokes++) {
            x.paint(2, 0, strokes);
        }
        Check.due("20: 12 are kept", x.size(8), 12);
        Check.due("20: the eldest", x.painting(11, 2) + " " + x.painting(10, 2) + " " + x.painting(0, 2), "3 1 11");
        Check.none("20: the 13th", () -> x.painting(12, 0));
        x.undo();
        Check.due("20: kept after undo", x.size(8) + " " + x.painting(11, 2) + " " + x.painting(0, 2), "12 2 10");
        for (int bad : new int[] {-1, FIRST, LAST}) {
            Check.none("20: index " + bad, () -> x.painting(bad, 0));
            Check.none("20: what " + bad, () -> x.painting(0, bad));
        }
        Check.none("20: what 4", () -> x.painting(0, 4));
        Check.none("20: without any", () -> new PaletteTubes().painting(0, 0));
    }

    private static void cleaning() {
        PaletteTubes x = Check.loaded("palette; tube a 9 9 9; mix m = 1 a;");
        Check.due("32: a clean one", x.clean(0) + " " + x.undoCount(), "0 1");
        for (int i = 0; i < 4; i++) {
            x.paint(0, 0, 1);
        }
        Check.due("32: turbidity", x.clean(0), 3);
        Check.due("32: the colour stays", x.brush(0, 0) + " " + x.brush(0, 3), "9 0");
        x.paint(0, 0, 1);
        Check.due("32: turbidity 4", x.clean(0) + " " + x.brush(0, 3), "4 0");
        x.paint(0, 0, 1);
        Check.due("32: still clean at 4", x.clean(0) + " " + x.brush(0, 3), "5 0");
        Check.due("32: not more dirt than it had", x.clean(0) + " " + x.brush(0, 3), "5 0");
        x.paint(0, 0, 1);
        x.paint(0, 0, 1);
        Check.due("32: turbid", x.clean(0) + " " + x.brush(0, 3), "7 1");
        x.paint(0, 0, 1);
        x.paint(0, 0, 1);
        Check.due("32: at most 9", x.clean(0) + " " + x.brush(0, 3) + " " + x.size(7), "9 1 9");
        Check.due("33: change", x.change() + " " + x.size(7) + " " + x.change(), "9 0 0");
        Check.due("33: the brush stays", x.brush(0, 3), 1);
        Check.due("32: clean again", x.clean(0) + " " + x.brush(0, 3), "1 0");
        for (int bad : new int[] {-1, 2, FIRST, LAST}) {
            Check.none("32: brush " + bad, () -> x.clean(bad));
        }
    }

    private static void spareClosestTwins() {
        PaletteTubes x = Check.loaded(PALETTE);
        Check.due("21: grey", x.spare(), 4);
        x.retire(4, true);
        Check.due("21: white", x.spare(), 3);
        Check.define(x, "more = 1 white + 1 green");
        Check.due("21: of several the smallest", x.spare(), 2);
        x.retire(2, true);
        Check.due("21: broken mixes count, too", x.spare(), 3);
        for (int tube = 0; tube < 5; tube++) {
            x.retire(tube, true);
        }
        Check.due("21: none", x.spare(), -1);
        PaletteTubes y = Check.loaded("palette; tube a 0 0 0; tube b 9 0 0; tube c 0 0 9; mix i=1c; mix j=1a;");
        Check.due("22: two", y.closest(), 1);
        Check.define(y, "i=1c+1b");
        Check.define(y, "j=1c+1b");
        Check.due("21: tube 0", y.spare(), 0);
        Check.define(y, "i=1c");
        Check.define(y, "j=1a");
        Check.define(y, "k=1b");
        Check.due("22: 1 and 2", y.closest(), 102);
        Check.define(y, "l=2c");
        Check.define(y, "m=2b");
        Check.due("22: of several the smallest", y.closest(), 3);
        Check.due("23: two pairs", y.twins(), 2);
        Check.define(y, "n=1b");
        Check.due("23: three of a colour are three pairs", y.twins(), 4);
        PaletteTubes z = Check.loaded("palette; tube a 0 0 0; mix i=1a;");
        Check.due("22: one mix", z.closest() + " " + z.twins(), "-1 0");
        for (int i = 0; i < 11; i++) {
            Check.define(z, (char) ('k' + i) + "=1a");
        }
        Check.due("23: 12 of a colour", z.twins(), 66);
        PaletteTubes w = Check.loaded("palette; tube a 0 0 0; tube b 255 255 255; tube c 0 255 0;mix i=1a; mix j=1b; mix k=1c;"
            + "mix l=1b+1a; mix m=1c+1a; mix n=1b+1c; mix o=2a+1c; mix p=1a+2b; mix q=1a+3b; mix r=1a+4b; mix s=1a+8b; mix t=1a+9b;");
        Check.due("22: two digits", w.closest(), 1011);
    }

    private static void lossAndShares() {
        PaletteTubes x = Check.loaded(PALETTE);
        Check.due("24: exact", x.loss(0), 0);
        Check.due("24: as nearest", x.loss(2), x.nearest(0xaabbcc, 3, 3));
        Check.due("24: not 0", x.loss(2) > 0, true);
        Check.due("25: mean", x.meanDrops(), (50 + 100 + 9 + 9999) / 5.0);
        x.retire(3, true);
        Check.due("25: in use only", x.meanDrops(), 159.0 / 4);
        Check.due("26: share", x.brokenShare(), 1f / 3f);
        x.retire(0, true);
        Check.due("26: all", x.brokenShare(), 1f);
        Check.due("25: of 3", x.meanDrops(), 109.0 / 3.0);
        for (int tube = 0; tube < 5; tube++) {
            x.retire(tube, true);
        }
        Check.due("25: none", x.meanDrops(), 0.0);
        Check.due("24: none in use", x.loss(0), -1);
        Check.due("26: none", new PaletteTubes().brokenShare(), 0f);
    }

    private static void defining() {
        PaletteTubes x = Check.loaded(PALETTE);
        Check.due("27: new", Check.define(x, "pink = 1 red + 2 white"), 3);
        Check.due("27: its parts", Check.format(x, 3), "pink=1red+2white");
        Check.due("27: again", Check.define(x, "orange=3red"), 0);
        Check.due("27: its number stays", Check.format(x, 0) + " " + x.size(2) + " " + x.mix(0, 3), "orange=3red 4 1");
        x.retire(0, true);
        Check.due("27: with a retired tube", Check.define(x, "mix = 1 red") + " " + x.mix(4, 5), "4 1");
        Check.due("27: operations", x.undoCount(), 4);
        Check.due("27: without name", Check.define(x, "= 1 red") + " " + x.errorPosition(), "-11 0");
        Check.due("27: with 'mix'", Check.define(x, "mix new = 1 red") + " " + x.errorPosition(), "-11 4");
        Check.due("27: long", Check.define(x, "abcdefghi = 1 red") + " " + x.errorPosition(), "-12 0");
        Check.due("27: a tube's name", Check.define(x, "red = 1 red") + " " + x.errorPosition(), "-13 0");
        Check.due("27: more", Check.define(x, "new = 1 red 1") + " " + x.errorPosition(), "-11 12");
        Check.due("27: too many parts", Check.define(x, "new=1red+1blue+1grey+1white+1green") + " " + x.errorPosition(), "-13 28");
        Check.due("27: errors change nothing", x.undoCount() + " " + x.size(2), "4 5");
        Check.illegal("27: and empty the buffer", () -> x.define(1));
        for (int i = 0; i < 11; i++) {
            Check.feed(x, "new = 1 red         ");
        }
        Check.illegal("27: 201", () -> x.define(201));
        Check.illegal("27: -1", () -> x.define(-1));
        Check.due("27: 200", x.define(200) + " " + x.errorPosition(), "-11 20");
        x.feed(0x6e65773d, 0x31726564, 0x20202020, 0, 0);
        Check.illegal("27: more than there is", () -> x.define(21));
        Check.due("27: the first bytes", x.define(12), 5);
    }

    private static void forgetting() {
        PaletteTubes x = Check.loaded(PALETTE);
        Check.due("28: left", x.forget(0), 2);
        Check.due("28: numbers", Check.format(x, 0) + " " + Check.format(x, 1), "violet=1blue+1red four=9white+1red+2green+3blue");
        Check.due("28: uses", x.tube(1, 5), 1);
        Check.due("28: the name is free", Check.define(x, "orange=1red"), 2);
        Check.due("28: the last", x.forget(2), 2);
        for (int bad : new int[] {-1, 2, FIRST, LAST}) {
            Check.none("28: " + bad, () -> x.forget(bad));
        }
        Check.due("28: all", x.forget(1) + " " + x.forget(0) + " " + x.size(2), "1 0 0");
    }

    private static void retiring() {
        PaletteTubes x = Check.loaded(PALETTE);
        Check.due("29: blue", x.retire(2, true), 2);
        Check.due("29: again", x.retire(2, true) + " " + x.undoCount(), "2 2");
        Check.due("29: red", x.retire(0, true), 3);
        Check.due("29: blue in use", x.retire(2, false) + " " + x.tube(2, 4), "3 1");
        Check.due("29: red in use", x.retire(0, false), 0);
        for (int bad : new int[] {-1, 5, FIRST, LAST}) {
            Check.none("29: " + bad, () -> x.retire(bad, true));
        }
    }

    private static void healing() {
        PaletteTubes x = Check.loaded("palette most 4 tolerance 1000; tube a 100 0 0; tube b 0 100 0; tube c 0 0 0; tube d 90 10 10;"
            + "mix m = 5 a; mix n = 1 c + 3 b + 2 a;");
        Check.due("30: not broken", x.heal(0), -2);
        x.retire(0, true);
        x.setTolerance(899);
        Check.due("30: far", x.heal(0), -4);
        Check.due("30: nothing changes", Check.format(x, 0) + " " + x.undoCount(), "m=5a! 2");
        x.setTolerance(900);
        Check.due("30: exactly TOLERANCE", x.heal(0), 900);
        Check.due("30: healed", Check.format(x, 0) + " " + x.mix(0, 3) + " " + x.mix(0, 4), "m=1d 1 1");
        Check.due("30: uses", x.tube(0, 5) + " " + x.tube(3, 5), "1 1");
        int far = x.loss(1);
        int tubes = x.nearest(33 * 65536 + 50 * 256, 3, 1);
        Check.due("30: three tubes", x.heal(1) + " " + tubes, far + " 3");
        Check.due("30: ascending", Check.format(x, 1), "n=2b+1c+1d");
        Check.due("30: it is not broken any more", x.heal(1), -2);
        for (int tube = 1; tube < 4; tube++) {
            x.retire(tube, true);
        }
        Check.due("30: no tube in use", x.heal(1), -3);
        Check.due("30: operations", x.undoCount(), 8);
        PaletteTubes y = Check.loaded("palette tolerance 99999; tube a 100 0 0; tube b 90 0 0; mix m = 1 b + 9 a;");
        y.retire(1, true);
        Check.due("30: fewer tubes than before", y.heal(0) + " " + Check.format(y, 0) + " " + y.mix(0, 3), "2 m=1a 1");
        for (int bad : new int[] {-1, 2, FIRST, LAST}) {
            Check.none("30: " + bad, () -> x.heal(bad));
        }
    }

    private static void painting() {
        PaletteTubes x = Check.loaded(PALETTE);
        Check.due("31: too few", x.paint(0, 0, 26), -3);
        Check.due("31: nothing changes", x.tube(0, 3) + " " + x.brush(0, 3) + " " + x.size(8) + " " + x.undoCount(), "50 0 0 0");
        Check.due("31: all of it", x.paint(0, 0, 25), 0xaa5500);
        Check.due("31: drops", x.tube(0, 3) + " " + x.tube(1, 3) + " " + x.tube(2, 3), "0 75 9");
        Check.due("31: nothing left", x.paint(0, 0, 1), -3);
        x.retire(0, true);
        Check.due("31: broken first", x.paint(0, 0, 1), -2);
        x.refill(0, 999);
        Check.due("31: broken", x.paint(0, 0, 1), -2);
        Check.due("31: 99", Check.define(x, "snow=9white") + " " + x.paint(1, 3, 99) + " " + x.tube(3, 3), "3 16777215 9108");
        for (int bad : new int[] {-1, 3, FIRST, LAST}) {
            Check.none("31: brush " + bad, () -> x.paint(bad, 0, 1));
            Check.none("31: brush first " + bad, () -> x.paint(bad, 0, 0));
        }
        for (int bad : new int[] {-1, 4, FIRST, LAST}) {
            Check.none("31: mix " + bad, () -> x.paint(0, bad, 1));
            Check.none("31: mix first " + bad, () -> x.paint(0, bad, 0));
        }
        for (int bad : new int[] {0, -1, 100, FIRST, LAST}) {
            Check.illegal("31: strokes " + bad, () -> x.paint(0, 0, bad));
        }
    }

    private static void refilling() {
        PaletteTubes x = Check.loaded(PALETTE);
        Check.due("34: one", x.refill(4, 1), 1);
        Check.due("34: 999", x.refill(4, 999) + " " + x.tube(4, 3), "1000 1000");
        Check.due("34: full", x.refill(3, 1) + " " + x.tube(3, 3) + " " + x.undoCount(), "-2 9999 2");
        x.retire(4, true);
        Check.due("34: retired", x.refill(4, 1), 1001);
        Check.define(x, "snow=1white");
        x.paint(0, 3, 1);
        Check.due("34: to 9999", x.refill(3, 2) + " " + x.refill(3, 1), "-2 9999");
        for (int bad : new int[] {-1, 5, FIRST, LAST}) {
            Check.none("34: tube " + bad, () -> x.refill(bad, 1));
            Check.none("34: tube first " + bad, () -> x.refill(bad, 0));
        }
        for (int bad : new int[] {0, -1, 1000, FIRST, LAST}) {
            Check.illegal("34: drops " + bad, () -> x.refill(0, bad));
        }
    }

    private static void settings() {
        PaletteTubes x = Check.loaded(PALETTE);
        Check.due("35: before", x.setMost(1) + " " + x.setMost(6) + " " + x.setMost(6) + " " + x.size(5), "4 1 6 6");
        Check.due("36: before", x.setTolerance(0) + " " + x.setTolerance(99999) + " " + x.size(6), "300 0 99999");
        Check.due("35: all are recorded", x.undoCount(), 5);
        for (int bad : new int[] {0, -1, 7, FIRST, LAST}) {
            Check.illegal("35: " + bad, () -> x.setMost(bad));
        }
        for (int bad : new int[] {-1, 100000, FIRST, LAST}) {
            Check.illegal("36: " + bad, () -> x.setTolerance(bad));
        }
    }

    private static void formatting() {
        PaletteTubes x = Check.loaded(PALETTE + "tube abcdefgh 0 0 0; tube bcdefghi 0 0 0; tube cdefghij 0 0 0; tube defghijk 0 0 0;"
            + "mix stuvwxyz=09abcdefgh+9bcdefghi+9cdefghij+9defghijk;");
        Check.due("37: length", x.format(0), 17 + 1);
        Check.due("38: text", Check.formatted(x, 18), "orange=2red+1green");
        Check.due("38: behind it", x.formattedByte(18) + " " + x.formattedByte(-1) + " " + x.formattedByte(LAST) + " "
            + x.formattedByte(FIRST), "-1 -1 -1 -1");
        x.retire(0, true);
        Check.due("38: as it was then", Check.formatted(x, 18), "orange=2red+1green");
        Check.due("37: broken", Check.format(x, 1), "violet=1blue+1red!");
        Check.none("37: -1", () -> x.format(-1));
        Check.none("37: 4", () -> x.format(4));
        Check.due("38: stays", Check.formatted(x, 18), "violet=1blue+1red!");
        x.saveSnapshot();
        x.retire(5, true);
        Check.due("37: longest", x.format(3), 8 + 1 + 36 + 3 + 1);
        String longest = "stuvwxyz=9abcdefgh+9bcdefghi+9cdefghij+9defghijk!";
        Check.due("38: longest", Check.formatted(x, 49), longest);
        x.undo();
        Check.due("38: behind undo", Check.formatted(x, 49), longest);
        x.restoreSnapshot();
        Check.due("38: behind restoreSnapshot", Check.formatted(x, 49), longest);
        Check.load(x, "palette;");
        Check.due("38: behind load", Check.formatted(x, 49), longest);
    }

    private static void undoing() {
        PaletteTubes x = Check.loaded(PALETTE);
        Check.due("40: nothing", x.undo(), -1);
        for (int i = 1; i <= 13; i++) {
            x.setTolerance(i);
            Check.due("39: after " + i, x.undoCount(), Math.min(10, i));
        }
        for (int i = 12; i >= 3; i--) {
            Check.due("40: left", x.undo(), i - 3);
            Check.due("40: restored", x.size(6), i);
            Check.due("39: left", x.undoCount(), i - 3);
        }
        Check.due("40: no more", x.undo() + " " + x.size(6), "-1 3");
        x.setTolerance(50);
        x.undo();
        Check.due("40: again", x.size(6), 3);
        int length = Check.feed(x, "palette;");
        x.change();
        x.undo();
        Check.due("40: not the buffer", x.load(length), 0);
    }

    /** Few tubes and mixes, so that the whole state is told by few calls; each operation finds something to change. */
    private static PaletteTubes worked() {
        PaletteTubes x = Check.loaded("palette tolerance 99999; tube a 100 0 0 50; tube b 0 100 0; mix m=2a+1b; mix n=1b;");
        x.paint(0, 1, 1);
        x.clean(0);
        x.paint(0, 1, 1);
        x.retire(0, true);
        return x;
    }

    private static void undoingEachOperation() {
        Check.On[] operations = {x -> Check.define(x, "o=1a"), x -> Check.define(x, "m=1b"), x -> x.forget(0),
            x -> x.retire(1, true), x -> x.retire(0, false), x -> x.heal(0), x -> x.paint(0, 1, 3), x -> x.clean(0),
            x -> x.change(), x -> x.refill(1, 5), x -> x.setMost(1), x -> x.setTolerance(1)};
        for (int i = 0; i < operations.length; i++) {
            PaletteTubes x = worked();
            String before = Check.state(x);
            operations[i].answer(x);
            Check.due("40: operation " + i + " is recorded", x.undoCount(), 5);
            Check.due("40: operation " + i + " changes something", Check.state(x).equals(before), false);
            Check.due("40: operation " + i + ", left", x.undo(), 4);
            Check.due("40: operation " + i, Check.state(x), before);
        }
    }

    private static void notRecorded() {
        PaletteTubes x = Check.loaded(PALETTE);
        x.paint(0, 0, 99);
        x.heal(0);
        x.refill(3, 1);
        Check.define(x, "new");
        x.format(0);
        x.called(0);
        Check.mixed(x, "1red");
        Check.query(x, "many 1=1");
        x.saveSnapshot();
        Check.due("Operations: these are not recorded", x.undoCount(), 0);
        Check.illegal("Operations: an exception", () -> x.setMost(9));
        Check.due("Operations: neither is it", x.undoCount(), 0);
        x.setMost(4);
        x.setTolerance(300);
        x.change();
        x.clean(0);
        x.retire(0, false);
        Check.define(x, "orange=2red+1green");
        Check.due("Operations: recorded even if they change nothing", x.undoCount(), 6);
    }

    private static void snapshots() {
        PaletteTubes x = Check.loaded("palette; tube a 255 0 0; mix m=1a; mix n=2a; mix o=3a;");
        Check.due("42: none", x.restoreSnapshot(), false);
        x.paint(0, 0, 3);
        Check.due("42: nothing changes", x.undoCount(), 1);
        x.clean(0);
        String saved = Check.state(x);
        x.saveSnapshot();
        Check.due("41: undo stays", x.undoCount(), 2);
        x.retire(0, true);
        x.forget(1);
        x.setMost(1);
        x.setTolerance(1);
        x.change();
        Check.due("42: there is one", x.restoreSnapshot(), true);
        Check.due("42: restored", Check.state(x), saved);
        Check.due("42: undo is cleared", x.undoCount() + " " + x.undo(), "0 -1");
        x.forget(0);
        Check.due("42: it is kept", x.restoreSnapshot() + " " + Check.state(x), "true " + saved);
        x.forget(0);
        String later = Check.state(x);
        x.saveSnapshot();
        x.undo();
        Check.due("41: undo leaves the snapshot", x.restoreSnapshot() + " " + Check.state(x), "true " + later);
        int length = Check.feed(x, "palette;");
        x.restoreSnapshot();
        Check.due("42: not the buffer", x.load(length), 0);
    }

    private static void query(PaletteTubes x, String text, int answer) {
        Check.due("43: " + text, Check.query(x, text), answer);
    }

    private static void queries() {
        PaletteTubes x = Check.loaded(PALETTE);
        query(x, "many 1=1", 3);
        query(x, "many 1=2", 0);
        query(x, "first 1=1", 0);
        query(x, "first 1=2", -1);
        query(x, "first mix>0", 1);
        query(x, "many mix<2", 2);
        query(x, "first tubes = 4", 2);
        query(x, "first parts = 2", 1);
        query(x, "first red = 128", 1);
        query(x, "first green = 187", 2);
        query(x, "first blue = 204", 2);
        query(x, "first blue > red", 2);
        query(x, "many strokes = 25", 1);
        query(x, "many broken = 0", 3);
        x.retire(2, true);
        query(x, "many broken = 1", 2);
        query(x, "many broken > 0 and mix = 1", 1);
        query(x, "many mix=0 or mix=1 and mix=2", 1);
        query(x, "many (mix=0 or mix=1) and mix=1", 1);
        query(x, "many not mix=0 and mix=1 or mix = 2", 2);
        query(x, "many not not mix=0", 1);
        query(x, "many not(mix=0 or mix=2)", 1);
        query(x, "many mix=0 or mix=1 or mix=2", 3);
        query(x, "many 0 < 1 and 1 > 0 and 2=2 and 9999 > 09998", 3);
        query(x, "many 1<1", 0);
        query(x, "many 1>1", 0);
        query(x, "many not not not not not not 1=1", 3);
        query(x, "many ((((((1=1))))))", 3);
        query(x, "many not (not (not (1=1))) and not (not (not (1=2)))", 0);
        query(x, "many ((((((1=1)))))) and ((((((1=1))))))", 3);
        query(x, "many not not not not not not 1=1 and not not not not not not 1=1", 3);
        query(x, "\nmany\n1=1\n", 3);
        x.forget(2);
        query(x, "many not 1=2", 2);
        query(new PaletteTubes(), "many not 1=2", 0);
        query(new PaletteTubes(), "many 1=1", 0);
        query(new PaletteTubes(), "first 1=1", -1);
        Check.due("43: is no operation", x.undoCount(), 2);
    }

    private static void queryError(String text, int code, int position) {
        for (PaletteTubes x : new PaletteTubes[] {new PaletteTubes(), Check.loaded(PALETTE)}) {
            Check.due("43: " + text, Check.query(x, text) + " at " + x.errorPosition(), (-1000000000 - code) + " at " + position);
            Check.illegal("43: the buffer is empty", () -> x.query(1));
        }
    }

    private static void queryErrors() {
        queryError("", 1, 0);
        queryError("all 1=1", 1, 0);
        queryError("many", 1, 4);
        queryError("many first 1=1", 1, 5);
        queryError("many 1", 1, 6);
        queryError("many 1=", 1, 7);
        queryError("many 1=1 2", 1, 9);
        queryError("many 1=1)", 1, 8);
        queryError("many (1=1", 1, 9);
        queryError("many ()", 1, 6);
        queryError("many not", 1, 8);
        queryError("many 1=1 and", 1, 12);
        queryError("many 1=1 or or", 1, 12);
        queryError("many and", 1, 5);
        queryError("many 1 = not 1", 1, 9);
        queryError("many colour=1", 1, 5);
        queryError("many 1+1", 1, 6);
        queryError("many 1==1", 1, 7);
        queryError("many 1=1;", 1, 8);
        queryError("many 1=1#", 1, 8);
        queryError("many 10000=1", 2, 5);
        queryError("many 1<99999999999", 2, 7);
        queryError("many not not not not not not not 1=1", 3, 29);
        queryError("many (((((((1=1)))))))", 3, 11);
        queryError("many not (not (not (not 1=1)))", 3, 20);
        queryError("many 1=1 and ((((((not 1=1))))))", 3, 19);
        queryError("many ((((((1=(", 1, 13);
        PaletteTubes x = new PaletteTubes();
        for (int i = 0; i < 11; i++) {
            Check.feed(x, "many 1=1            ");
        }
        Check.illegal("43: 201", () -> x.query(201));
        Check.illegal("43: -1", () -> x.query(-1));
        Check.due("43: 200", x.query(200) + " " + x.errorPosition(), "-1000000001 20");
        Check.illegal("43: more than there is", () -> x.query(1));
    }
}
