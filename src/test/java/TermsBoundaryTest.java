/**
 * The boundary cases of the chapter 'Terms' (but for its section 'Operations'), in the order of its sentences.
 * A check tells the section and the words that it stands for.
 */
public final class TermsBoundaryTest {
    /** One step of each value, and the ends of the range. */
    private static final String STEPS = "palette; tube o 0 0 0; tube r 1 0 0; tube g 0 1 0; tube b 0 0 1; tube w 255 255 255;";

    private static final String LONG_ZEROS = "0".repeat(150);

    public static void main(String[] args) {
        colourValues();
        distances();
        tubes();
        partsOfMixes();
        rounding();
        namedMixes();
        names();
        broken();
        smallMixes();
        smallMixOrder();
        smallMixEqualsAreFar();
        smallMixPartsOrder();
        brushes();
        paintedColours();
        water();
        paintings();
        everyByte();
        everyByteOfQuery();
        leadingZeros();
        hugeNumbers();
        defaults();
        settingsRanges();
        textsThatEndEarly();
        missing();
        tokensNotAllowed();
        severalCodes();
        keywordsOfThe21st();
        queryNumbers();
        queryComparisons();
        queryDepth();
        queryTextsThatEndEarly();
        Check.end("TermsBoundaryTest");
    }

    private static void loads(String what, String text, String want) {
        Check.due(what + ": " + text, Check.loadAnswer(text), want);
    }

    private static void mixes(String what, PaletteTubes x, String text, int want) {
        Check.due(what + ": " + text, Check.mixed(x, text), want);
    }

    private static void asks(PaletteTubes x, String text, String want) {
        Check.due("Queries: " + text, Check.queryAnswer(x, text), want);
    }

    // ---- colours and tubes

    private static void colourValues() {
        String what = "Colours: red, green and blue (0 to 255 each)";
        loads(what, "palette; tube a 0 0 0; tube b 255 255 255;", "2 at -1");
        loads(what, "palette; tube a 256 0 0;", "-12 at 16");
        loads(what, "palette; tube a 0 256 0;", "-12 at 18");
        loads(what, "palette; tube a 0 0 256;", "-12 at 20");
        PaletteTubes x = Check.loaded("palette; tube a 255 0 0; tube b 0 255 0; tube c 0 0 255; tube d 255 255 255; tube e 1 2 3;");
        int[] wants = {16711680, 65280, 255, 16777215, 66051};
        for (int tube = 0; tube < wants.length; tube++) {
            mixes("Colours: 65536 times red plus 256 times green plus blue", x, "1" + (char) ('a' + tube), wants[tube]);
            Check.due("Colours: tube " + tube, 65536 * x.tube(tube, 0) + 256 * x.tube(tube, 1) + x.tube(tube, 2), wants[tube]);
        }
    }

    private static void distances() {
        PaletteTubes x = new PaletteTubes();
        int[][] wants = {{0xff0000, 0, 130050}, {0xff00, 0, 260100}, {0xff, 0, 195075}, {0xffffff, 0, 585225},
            {0x010000, 0, 2}, {0x000100, 0, 4}, {0x000001, 0, 3}, {0x00ff00, 0xff00ff, 585225}, {0x80ff7f, 0x80ff7f, 0},
            {0xffffff, 0xffffff, 0}, {0x00ffff, 0x010000, 2 + 4 * 65025 + 3 * 65025}};
        for (int[] want : wants) {
            Check.due("Colours: how far " + want[0] + " and " + want[1], x.apart(want[0], want[1]), want[2]);
            Check.due("Colours: how far " + want[1] + " and " + want[0], x.apart(want[1], want[0]), want[2]);
        }
    }

    private static String manyTubes(int count) {
        StringBuilder text = new StringBuilder("palette;");
        for (int i = 0; i < count; i++) {
            text.append("tube ").append((char) ('a' + i)).append(' ').append(i).append(" 0 0;");
        }
        return text.toString();
    }

    private static void tubes() {
        PaletteTubes x = Check.loaded(manyTubes(20));
        Check.due("Tubes: at most 20, numbered from 0", x.size(0) + " " + x.tube(0, 0) + " " + x.tube(19, 0), "20 0 19");
        Check.noneOutside("Tubes: at most 20, numbered from 0", 0, 19, tube -> x.tube(tube, 0));
        loads("Tubes: the 21st", manyTubes(21), "-13 at " + manyTubes(20).length());
        String what = "Tubes: drops (0 to 9999)";
        loads(what, "palette; tube a 1 1 1 0; tube b 1 1 1 9999;", "2 at -1");
        loads(what, "palette; tube a 1 1 1 10000;", "-12 at 22");
        PaletteTubes y = Check.loaded("palette; tube a 1 1 1 0; tube b 1 1 1 9999;");
        Check.due(what, y.tube(0, 3) + " " + y.tube(1, 3) + " " + y.size(9), "0 9999 9999");
        Check.due("Tubes: in use (at first), also an empty one", y.tube(0, 4) + " " + y.tube(1, 4) + " " + y.size(1), "1 1 2");
        StringBuilder full = new StringBuilder("palette;");
        for (int i = 0; i < 20; i++) {
            full.append("tube ").append((char) ('a' + i)).append(" 0 0 0 9999;");
        }
        Check.due("Tubes: 20 that are full", Check.loaded(full.toString()).size(9), 20 * 9999);
        Check.due("Tubes: 20 that are full, mean", Check.loaded(full.toString()).meanDrops(), 9999.0);
    }

    // ---- mixes

    private static void partsOfMixes() {
        String tubes = "palette; tube a 0 0 0; tube b 0 0 0; tube c 0 0 0; tube d 0 0 0; tube e 0 0 0; mix m=";
        int at = tubes.length();
        String what = "Mixes: 1 to 4 different tubes";
        loads(what, tubes + ";", "-11 at " + at);
        loads(what, tubes + "1a;", "5 at -1");
        loads(what, tubes + "1a+1b+1c+1d;", "5 at -1");
        loads(what, tubes + "1a+1b+1c+1d+1e;", "-13 at " + (at + 12));
        loads(what, tubes + "1a+1a;", "-14 at " + (at + 4));
        loads(what, tubes + "1a+1b+1c+2a;", "-14 at " + (at + 10));
        loads(what, tubes + "1a+1b+1c+2c;", "-14 at " + (at + 10));
        what = "Mixes: parts (1 to 9)";
        loads(what, tubes + "0a;", "-12 at " + at);
        loads(what, tubes + "9a+1b;", "5 at -1");
        loads(what, tubes + "10a;", "-12 at " + at);
        loads(what, tubes + "1a+0b;", "-12 at " + (at + 3));
        loads(what, tubes + "1a+1b+1c+10d;", "-12 at " + (at + 9));
    }

    private static void rounding() {
        PaletteTubes x = Check.loaded(STEPS);
        String what = "Mixes: rounded to the nearest number (halves upward)";
        mixes(what, x, "1o+1r", 0x010000);
        mixes(what, x, "1o+1g", 0x000100);
        mixes(what, x, "1o+1b", 0x000001);
        mixes(what, x, "2o+1r", 0);
        mixes(what, x, "1o+2r", 0x010000);
        mixes(what, x, "4o+4g", 0x000100);
        mixes(what, x, "5o+4g", 0);
        mixes(what, x, "4o+5g", 0x000100);
        mixes(what, x, "9o+8b", 0);
        mixes(what, x, "8o+9b", 0x000001);
        mixes(what, x, "9o+9b", 0x000001);
        mixes(what, x, "1o+2r+1g", 0x010000);
        mixes(what, x, "1o+1r+1g+1b", 0);
        mixes(what, x, "9r+9g+9b", 0);
        mixes(what, x, "1o+1w", 0x808080);
        mixes(what, x, "9o+1w", 0x1a1a1a);
        mixes(what, x, "1o+9w", 0xe6e6e6);
        mixes(what, x, "9w", 0xffffff);
        mixes(what, x, "9o", 0);
        mixes(what, Check.loaded("palette; tube a 255 255 255; tube b 255 255 255; tube c 255 255 255; tube d 255 255 255;"),
            "9a+9b+9c+9d", 0xffffff);
    }

    private static String manyMixes(int count) {
        StringBuilder text = new StringBuilder("palette; tube a 0 0 0; tube b 9 0 0;");
        for (int i = 0; i < count; i++) {
            text.append("mix m").append((char) ('a' + i)).append("=1a+").append(1 + i % 9).append("b;");
        }
        return text.toString();
    }

    private static void namedMixes() {
        PaletteTubes x = Check.loaded(manyMixes(20));
        Check.due("Mixes: at most 20, numbered from 0", x.size(2) + " " + Check.mix(x, 0) + " " + Check.mix(x, 19),
            "20 ma=1a+1b mt=1a+2b");
        Check.noneOutside("Mixes: at most 20, numbered from 0", 0, 19, mix -> x.mix(mix, 0));
        loads("Mixes: the 21st", manyMixes(21), "-13 at " + manyMixes(20).length());
        String what = "Mixes: those behind one that is forgotten get numbers that are 1 less";
        x.forget(0);
        Check.due(what + " (the first)", x.size(2) + " " + Check.mix(x, 0) + " " + Check.mix(x, 18), "19 mb=1a+2b mt=1a+2b");
        x.forget(18);
        Check.due(what + " (the last)", x.size(2) + " " + Check.mix(x, 0) + " " + Check.mix(x, 17), "18 mb=1a+2b ms=1a+1b");
        x.forget(8);
        Check.due(what + " (in the middle)", Check.mix(x, 7) + " " + Check.mix(x, 8) + " " + Check.mix(x, 16),
            "mi=1a+9b mk=1a+2b ms=1a+1b");
        Check.none(what, () -> x.mix(17, 0));
    }

    private static void names() {
        String what = "Names: a word of at most 8 letters";
        loads(what, "palette; tube abcdefgh 0 0 0; mix hgfedcba = 1 abcdefgh;", "1 at -1");
        loads(what, "palette; tube abcdefghi 0 0 0;", "-12 at 14");
        loads(what, "palette; tube a 0 0 0; mix abcdefghi = 1 a;", "-12 at 27");
        PaletteTubes x = Check.loaded("palette; tube a 0 0 0; tube abcdefgh 0 0 0; mix b = 1 abcdefgh;");
        Check.due(what, Check.name(x, false, 1) + " " + Check.name(x, false, 0) + " " + Check.name(x, true, 0), "abcdefgh a b");
        Check.due(what, Check.defineAnswer(x, "hgfedcba = 1 a"), "1 at -1");
        Check.due(what, Check.defineAnswer(x, " hgfedcbaa = 1 a"), "-12 at 1");
        PaletteTubes y = Check.loaded("palette; tube zzzzzzzz 9 8 7; mix yyyyyyyy = 1 zzzzzzzz;");
        Check.due("Names: a full name leaves the colours alone", Check.mixed(y, "1zzzzzzzz") + " " + y.called(0) + " " + y.wouldPaint(0, 0) + " "
            + y.paint(0, 0, 1) + " " + y.paint(0, 0, 1) + " " + Check.painting(y, 0) + " " + y.nearest(0, 3, 0),
            0x090807 + " 0 " + 0x090807 + " " + 0x090807 + " " + 0x090807 + " " + 0x090807 + " 0 1 " + 0x090807 + " " + 0x090807);
        what = "Names: all tubes and named mixes have different names";
        loads(what, "palette; tube a 0 0 0; tube a 0 0 0;", "-13 at 28");
        loads(what, "palette; tube a 0 0 0; mix a = 1 a;", "-13 at 27");
        loads(what, "palette; tube a 0 0 0; mix m = 1 a; tube m 0 0 0;", "-13 at 41");
        loads(what, "palette; tube a 0 0 0; mix m = 1 a; mix m = 1 a;", "-13 at 40");
        loads(what, "palette; tube abcdefgh 0 0 0; tube abcdefgh 0 0 0;", "-13 at 35");
        loads(what, "palette; tube a 0 0 0; tube aa 0 0 0; tube ab 0 0 0; tube abcdefg 0 0 0; tube abcdefgh 0 0 0;"
            + "tube abcdefgi 0 0 0; mix b = 1 a; mix bcdefgha = 1 a;", "6 at -1");
        what = "Names: NEW is a name (also a word that is quoted)";
        for (String word : new String[] {"palette", "brushes", "most", "tube", "mix", "many", "first", "or", "and", "not", "red", "drops"}) {
            loads(what, "palette; tube " + word + " 1 2 3; mix m = 1 " + word + ";", "1 at -1");
            loads(what, "palette; tube t 1 2 3; mix " + word + " = 1 t;", "1 at -1");
        }
        loads(what, "palette; tube tolerance 1 2 3;", "-12 at 14");
    }

    private static void broken() {
        for (int tube = 0; tube < 5; tube++) {
            PaletteTubes x = Check.loaded(STEPS + "mix m = 1o+1r+1g+1b;");
            Check.due("Mixes: broken if one of its tubes is retired, tube " + tube, x.retire(tube, true) + " " + x.mix(0, 5),
                tube < 4 ? "1 1" : "0 0");
            Check.due("Mixes: broken, size", x.size(3), tube < 4 ? 1 : 0);
            Check.due("Mixes: not broken any more", x.retire(tube, false) + " " + x.mix(0, 5), "0 0");
        }
    }

    private static String nearest(PaletteTubes x, int colour, int k) {
        StringBuilder text = new StringBuilder();
        for (int what = 0; what < 10; what++) {
            text.append(what == 0 ? "" : " ").append(x.nearest(colour, k, what));
        }
        return text.toString();
    }

    private static void smallMixes() {
        PaletteTubes x = Check.loaded("palette most 1; tube a 0 0 0 0; tube b 60 0 0 0; tube c 0 60 0; tube d 0 0 60;");
        Check.due("Small mixes: whatever is left in them", nearest(x, 0x3c0000, 1), 0x3c0000 + " 1 1 0 1 -1 -1 1 -1 -1");
        Check.due("Small mixes: at most 1 part together", nearest(x, 0x1e0000, 3), "0 1 1 1800 0 -1 -1 1 -1 -1");
        x.setMost(2);
        Check.due("Small mixes: at most 2 parts together", nearest(x, 0x1e0000, 3), 0x1e0000 + " 2 2 0 0 1 -1 1 1 -1");
        Check.due("Small mixes: 3 tubes need 3 parts", x.nearest(0x141400, 3, 1), 2);
        x.setMost(3);
        Check.due("Small mixes: at most 3 parts together", nearest(x, 0x141414, 3), 0x141414 + " 3 3 0 1 2 3 1 1 1");
        Check.due("Small mixes: of 1 to 2 tubes", x.nearest(0x141414, 2, 1), 2);
        Check.due("Small mixes: of 1 tube", x.nearest(0x141414, 1, 1), 1);
        x.setMost(5);
        Check.due("Small mixes: at most 5 parts together", x.nearest(0x320000, 3, 3), 8);
        x.setMost(6);
        Check.due("Small mixes: at most 6 parts together", nearest(x, 0x320000, 3), 0x320000 + " 2 6 0 0 1 -1 1 5 -1");
        Check.due("Small mixes: the greatest third part", nearest(x, 0x0a0a28, 3), 0x0a0a28 + " 3 6 0 1 2 3 1 1 4");
        Check.due("Small mixes: the greatest second part", nearest(x, 0x0a280a, 3), 0x0a280a + " 3 6 0 1 2 3 1 4 1");
        Check.due("Small mixes: the greatest first part", nearest(x, 0x280a0a, 3), 0x280a0a + " 3 6 0 1 2 3 4 1 1");
        Check.due("Small mixes: three of two parts are three of one", nearest(x, 0x141414, 3), 0x141414 + " 3 3 0 1 2 3 1 1 1");
        x.retire(1, true);
        Check.due("Small mixes: that are in use", x.nearest(0x3c0000, 3, 4), 0);
        for (int most = 1; most <= 6; most++) {
            PaletteTubes out = Check.loaded("palette most " + most + "; tube a 100 0 0; tube b 110 0 0; tube c 50 0 0; tube d 90 0 0;");
            Check.due("Small mixes: each with 1 part or more, not less, MOST " + most, nearest(out, 0xc80000, 3),
                0x6e0000 + " 1 1 16200 1 -1 -1 1 -1 -1");
            Check.due("Small mixes: each with 1 part or more, not less, MOST " + most, nearest(out, 0, 3),
                0x320000 + " 1 1 5000 2 -1 -1 1 -1 -1");
        }
        PaletteTubes y = Check.loaded("palette most 3; tube a 9 0 0; tube b 0 9 0; tube c 60 90 120;");
        Check.due("Small mixes: all values of the third tube", nearest(y, 0x172128, 3), 0x172128 + " 3 3 0 0 1 2 1 1 1");
        y = Check.loaded("palette most 2; tube a 9 0 0; tube b 60 90 120;");
        Check.due("Small mixes: all values of the second tube", nearest(y, 0x232d3c, 3), 0x232d3c + " 2 2 0 0 1 -1 1 1 -1");
    }

    private static void ahead(String what, String text, int colour, String want) {
        Check.due("Small mixes: " + what, nearest(Check.loaded(text), colour, 3), colour + " " + want);
    }

    private static void smallMixOrder() {
        PaletteTubes x = Check.loaded("palette most 2; tube a 50 0 1; tube b 0 0 0; tube c 100 0 0;");
        Check.due("Small mixes: less far, though of more tubes", nearest(x, 0x320000, 3), 0x320000 + " 2 2 0 1 2 -1 1 1 -1");
        ahead("fewer tubes, though with greater numbers", "palette; tube a 0 0 0; tube b 200 0 0; tube c 100 0 0;", 0x640000,
            "1 1 0 2 -1 -1 1 -1 -1");
        ahead("fewer tubes, though with more parts", "palette most 4; tube a 0 0 0; tube c 25 0 0; tube d 35 0 0; tube b 80 0 0;",
            0x140000, "2 4 0 0 3 -1 3 1 -1");
        ahead("fewer parts, of the same tube", "palette most 6; tube a 7 7 7;", 0x070707, "1 1 0 0 -1 -1 1 -1 -1");
        ahead("fewer parts, of the same shares", "palette most 6; tube a 0 0 0; tube b 100 0 0;", 0x320000,
            "2 2 0 0 1 -1 1 1 -1");
        ahead("fewer parts, though with greater tubes", "palette most 4; tube a 0 0 0; tube b 80 0 0; tube c 40 0 0;", 0x140000,
            "2 2 0 0 2 -1 1 1 -1");
        ahead("the smaller tube", "palette; tube a 1 1 1; tube b 7 7 7; tube c 7 7 7;", 0x070707, "1 1 0 1 -1 -1 1 -1 -1");
        ahead("the smaller first tube, though with a greater second one",
            "palette most 2; tube a 10 0 0; tube b 20 0 0; tube c 40 0 0; tube d 50 0 0;", 0x1e0000, "2 2 0 0 3 -1 1 1 -1");
        ahead("the smaller second tube", "palette most 2; tube a 0 0 0; tube b 9 9 9; tube c 100 0 0; tube d 100 0 0;", 0x320000,
            "2 2 0 0 2 -1 1 1 -1");
        ahead("the smaller third tube", "palette most 3; tube a 30 0 0; tube b 0 30 0; tube c 0 0 30; tube d 0 0 30;", 0x0a0a0a,
            "3 3 0 0 1 2 1 1 1");
        ahead("the smaller second tube of three", "palette most 3; tube a 30 0 0; tube b 0 30 0; tube c 0 30 0; tube d 0 0 30;",
            0x0a0a0a, "3 3 0 0 1 3 1 1 1");
        ahead("the smaller tubes, though with greater parts", "palette most 3; tube a 0 0 0; tube b 60 0 0; tube c 30 0 0;", 0x140000,
            "2 3 0 0 1 -1 2 1 -1");
    }

    /** None of these mixes meets the colour, and two of them are as far from it. */
    private static void smallMixEqualsAreFar() {
        for (int blue : new int[] {0, 3}) {
            String b = blue + ";";
            ahead("as far by red, the smaller tube", "palette most 1; tube a 9 5 " + b + "tube b 3 5 " + b + "tube c 9 5 " + b, 0x060500,
                "1 1 " + (18 + 3 * blue * blue) + " 0 -1 -1 1 -1 -1", 0x090500 + blue);
            ahead("as far by green, the smaller tube", "palette most 1; tube a 5 3 " + b + "tube b 5 9 " + b + "tube c 5 3 " + b, 0x050600,
                "1 1 " + (36 + 3 * blue * blue) + " 0 -1 -1 1 -1 -1", 0x050300 + blue);
        }
        ahead("as far by blue, the smaller tube", "palette most 1; tube a 5 5 9; tube b 5 5 3; tube c 5 5 9;", 0x050506,
            "1 1 27 0 -1 -1 1 -1 -1", 0x050509);
        ahead("as far, fewer parts", "palette most 6; tube a 5 5 9;", 0x050506, "1 1 27 0 -1 -1 1 -1 -1", 0x050509);
        ahead("as far, the smaller second tube", "palette most 2; tube a 0 0 0; tube b 0 0 20; tube c 0 0 20;", 0x00000b,
            "2 2 3 0 1 -1 1 1 -1", 0x00000a);
        ahead("as far, fewer tubes", "palette most 2; tube a 0 0 0; tube b 0 0 20; tube c 0 0 10;", 0x00000b,
            "1 1 3 2 -1 -1 1 -1 -1", 0x00000a);
    }

    private static void ahead(String what, String text, int colour, String want, int wantColour) {
        Check.due("Small mixes: " + what, nearest(Check.loaded(text), colour, 3), wantColour + " " + want);
    }

    /** Each mix needs a quarter of the green tube, and of the other two tubes that only with both is the red right. */
    private static void smallMixPartsOrder() {
        ahead("the smaller parts, at the second place", "palette; tube g 0 200 0; tube b 9 0 0; tube c 12 0 0;", 0x083200,
            "3 4 0 0 1 2 1 1 2");
        ahead("the smaller parts, at the first place", "palette; tube b 9 0 0; tube c 12 0 0; tube g 0 200 0;", 0x083200,
            "3 4 0 0 1 2 1 2 1");
        ahead("the smaller parts, at the first place of three", "palette; tube b 9 0 0; tube g 0 200 0; tube c 12 0 0;", 0x083200,
            "3 4 0 0 1 2 1 1 2");
    }

    // ---- brushes and water

    private static void brushes() {
        String what = "Brushes: 1 to 6, numbered from 0";
        for (int count = 1; count <= 6; count++) {
            PaletteTubes x = Check.loaded("palette brushes " + count + ";");
            Check.due(what, x.size(4), count);
            Check.noneOutside(what, 0, count - 1, brush -> x.brush(brush, 0));
            for (int brush = 0; brush < count; brush++) {
                Check.due("Brushes: 0 at first, with the colour 0, 0, 0", Check.brush(x, brush), "0 0 0 0");
            }
        }
        loads(what, "palette brushes 0;", "-12 at 16");
        loads(what, "palette brushes 7;", "-12 at 16");
        PaletteTubes x = Check.loaded("palette; tube a 1 1 1 99; tube b 1 1 1 198; tube c 1 1 1 297; tube d 1 1 1 891; tube e 1 1 1;"
            + "mix m = 1a+2b+3c+9d;");
        x.paint(0, 0, 99);
        Check.due("Brushes: takes, from each tube of the mix, the strokes times its parts",
            x.tube(0, 3) + " " + x.tube(1, 3) + " " + x.tube(2, 3) + " " + x.tube(3, 3) + " " + x.tube(4, 3), "0 0 0 0 100");
    }

    private static void paintedColours() {
        PaletteTubes x = Check.loaded("palette brushes 1; tube o 0 0 0 9999; tube w 255 255 255 9999; mix black=1o; mix white=1w;");
        String what = "Brushes: 4 times the mix plus dirt times the rest, by 4 plus dirt";
        Check.due(what + ", dirt 0", x.paint(0, 1, 1), 0xffffff);
        Check.due(what + ", dirt 1", x.wouldPaint(0, 0), 0x333333);
        Check.due(what + ", dirt 1", x.paint(0, 1, 1), 0xffffff);
        Check.due(what + ", dirt 2", x.wouldPaint(0, 0), 0x555555);
        Check.due(what + ", dirt 2", x.paint(0, 1, 1), 0xffffff);
        Check.due(what + ", dirt 3", x.wouldPaint(0, 0), 0x6d6d6d);
        Check.due(what + ", dirt 3", x.paint(0, 1, 1), 0xffffff);
        Check.due("Brushes: its dirt is 1 more, but at most 3", x.brush(0, 3), 3);
        Check.due("Brushes: this colour as the colour of its rest", x.paint(0, 0, 1) + " " + Check.brush(x, 0), 0x6d6d6d + " 109 109 109 3");
        halves("3 0 0", 0x010000);
        halves("0 3 0", 0x000100);
        halves("0 0 3", 0x000001);
        halves("2 2 2", 0x010101);
        halves("1 1 1", 0);
        halves("4 4 4", 0x010101);
        halves("5 5 5", 0x020202);
    }

    /** A rest of this colour with dirt 2, and black: the rest by 3, or 2 times it plus 3 by 6 for the halves. */
    private static void halves(String rest, int want) {
        PaletteTubes x = Check.loaded("palette; tube a " + rest + "; tube o 0 0 0; mix m=1a; mix n=1o;");
        x.paint(0, 0, 1);
        x.paint(0, 0, 1);
        Check.due("Brushes: rounded likewise, a rest of " + rest, x.wouldPaint(0, 1), want);
    }

    private static PaletteTubes turbid(int turbidity) {
        PaletteTubes x = Check.loaded("palette; tube a 9 8 7; mix m=1a;");
        for (int i = 0; i < turbidity; i++) {
            x.paint(1, 0, 1);
            if (x.brush(1, 3) == 2) {
                x.undo();
            }
            x.clean(1);
        }
        return x;
    }

    private static void water() {
        Check.due("Water: 0 at first", new PaletteTubes().size(7), 0);
        for (int turbidity = 0; turbidity <= 9; turbidity++) {
            for (int dirt = 0; dirt <= 3; dirt++) {
                PaletteTubes x = turbid(turbidity);
                Check.due("Water: the test's own turbidity", x.size(7), turbidity);
                for (int i = 0; i < dirt; i++) {
                    x.paint(0, 0, 1);
                }
                String rest = dirt == 0 ? "0 0 0 " : "9 8 7 ";
                int left = turbidity < 5 || dirt == 0 ? 0 : 1;
                int grown = turbidity + dirt > 9 ? 9 : turbidity + dirt;
                String what = "Water: turbidity " + turbidity + ", dirt " + dirt;
                Check.due(what + ", 0 if less than 5, otherwise 1 (but not more than it was), the rest stays",
                    x.clean(0) + " " + Check.brush(x, 0), grown + " " + rest + left);
                Check.due(what + ", grows by the dirt that it had, but to at most 9", x.size(7), grown);
            }
        }
    }

    private static void paintings() {
        PaletteTubes x = Check.loaded("palette; tube a 9 8 7 999; mix m=1a;");
        for (int strokes = 1; strokes <= 14; strokes++) {
            x.paint(strokes % 2, 0, strokes);
            int kept = Math.min(12, strokes);
            Check.due("Paintings: the 12 latest are kept", x.size(8) + " " + x.painting(0, 2) + " " + x.painting(kept - 1, 2),
                kept + " " + strokes + " " + (strokes - kept + 1));
            Check.none("Paintings: the 12 latest are kept", () -> x.painting(kept, 0));
        }
    }

    // ---- the input text

    private static void everyByte() {
        for (int b = 0; b < 256; b++) {
            String sign = "" + (char) b;
            boolean blank = b == 32 || b == 10;
            boolean letter = b >= 'a' && b <= 'z';
            boolean digit = b >= '0' && b <= '9';
            String what = "Input text: byte " + b;
            Check.due(what + ", load", Check.loadAnswer("palette" + sign + ";"),
                blank ? "0 at -1" : letter ? "-11 at 0" : b == ';' ? "-11 at 8" : "-11 at 7");
            PaletteTubes x = Check.loaded("palette; tube a 1 1 1; tube b 3 3 3;");
            Check.due(what + ", mixed", Check.mixedAnswer(x, "1a" + sign + "+1b"),
                blank ? 0x020202 + " at -1" : letter ? "-14 at 1" : b == '+' ? "-11 at 3" : "-11 at 2");
            Check.due(what + ", mixed, alone", Check.mixedAnswer(x, sign), blank ? "-11 at 1" : digit ? numberAlone(b) : "-11 at 0");
            Check.due(what + ", define", Check.defineAnswer(x, "n" + sign + "=1a"),
                blank || letter ? "0 at -1" : b == '=' ? "-11 at 2" : "-11 at 1");
        }
    }

    private static String numberAlone(int digit) {
        return digit == '0' ? "-12 at 0" : "-11 at 1";
    }

    private static void everyByteOfQuery() {
        for (int b = 0; b < 256; b++) {
            PaletteTubes x = Check.loaded("palette; tube a 1 1 1; mix m = 1a;");
            String text = "many 1=1" + (char) b + "or 1=1";
            boolean taken = b == 32 || b == 10 || b >= '0' && b <= '9';
            asks(x, text, taken ? "1 at -1" : "error 1 at 8");
            text = "many 1" + (char) b + "1";
            boolean sign = b == '<' || b == '=' || b == '>';
            boolean joined = b >= '0' && b <= '9';
            asks(x, text, sign ? (b == '=' ? "1 at -1" : "0 at -1") : b == 32 || b == 10 ? "error 1 at 7" : joined ? "error 1 at 8" : "error 1 at 6");
        }
    }

    private static void leadingZeros() {
        String what = "Input text: leading zeros are allowed";
        loads(what, "palette brushes " + LONG_ZEROS + "6 most " + LONG_ZEROS + "6 tolerance " + LONG_ZEROS + "99999;", "0 at -1");
        loads(what, "palette; tube a " + LONG_ZEROS + "255 " + LONG_ZEROS + "255 " + LONG_ZEROS + "255 " + LONG_ZEROS + "9999;", "1 at -1");
        loads(what, "palette; tube a 00 000 0 00000;", "1 at -1");
        loads(what, "palette; tube a 0256 0 0;", "-12 at 16");
        PaletteTubes x = Check.loaded("palette; tube a 1 1 1; mix m = " + LONG_ZEROS + "9a;");
        Check.due(what, x.partOf(0, 0, true), 9);
        mixes(what, x, LONG_ZEROS + "1a", 0x010101);
        Check.due(what, Check.mixedAnswer(x, LONG_ZEROS + "a"), "-12 at 0");
        Check.due(what, Check.defineAnswer(x, "n=" + LONG_ZEROS + "3a") + " " + x.partOf(1, 0, true), "1 at -1 3");
        asks(x, "many " + LONG_ZEROS + "9999=9999", "2 at -1");
        asks(x, "many 1=" + LONG_ZEROS + "1", "2 at -1");
    }

    /** Numbers that are right again in 32 or 64 bits. */
    private static void hugeNumbers() {
        for (String number : new String[] {"4294967297", "18446744073709551617", "8589934593", "2147483648", "2147483649",
            "9223372036854775808", "99999999999999999999999999999999", "1" + LONG_ZEROS + "1", "36893488147419103233"}) {
            String what = "Errors: 2, a number that is out of range";
            loads(what, "palette brushes " + number + ";", "-12 at 16");
            loads(what, "palette most " + number + ";", "-12 at 13");
            loads(what, "palette tolerance " + number + ";", "-12 at 18");
            loads(what, "palette; tube a " + number + " 1 1;", "-12 at 16");
            loads(what, "palette; tube a 1 1 " + number + ";", "-12 at 20");
            loads(what, "palette; tube a 1 1 1 " + number + ";", "-12 at 22");
            PaletteTubes x = Check.loaded("palette; tube a 1 1 1; mix m = 1a;");
            Check.due(what, Check.mixedAnswer(x, number + "a"), "-12 at 0");
            Check.due(what, Check.defineAnswer(x, "n=" + number + "a"), "-12 at 2");
            asks(x, "many " + number + "=1", "error 2 at 5");
            asks(x, "many 1=" + number, "error 2 at 7");
        }
    }

    private static void defaults() {
        PaletteTubes x = Check.loaded("palette; tube a 1 1 1; tube b 1 1 1 7;");
        Check.due("Input text: 2 brushes, MOST 4, TOLERANCE 300, drops 100 without them",
            x.size(4) + " " + x.size(5) + " " + x.size(6) + " " + x.tube(0, 3) + " " + x.tube(1, 3), "2 4 300 100 7");
        Check.load(x, "palette brushes 5 most 2 tolerance 0; tube a 1 1 1 0;");
        Check.due("Input text: with them", x.size(4) + " " + x.size(5) + " " + x.size(6) + " " + x.tube(0, 3), "5 2 0 0");
        Check.load(x, "palette; tube a 1 1 1;");
        Check.due("Input text: without them again", x.size(4) + " " + x.size(5) + " " + x.size(6) + " " + x.tube(0, 3), "2 4 300 100");
        Check.load(x, "palette tolerance 5;");
        Check.due("Input text: the last of them alone", x.size(4) + " " + x.size(5) + " " + x.size(6), "2 4 5");
        Check.load(x, "palette most 5;");
        Check.due("Input text: the second of them alone", x.size(4) + " " + x.size(5) + " " + x.size(6), "2 5 300");
        Check.load(x, "palette brushes 1 tolerance 4;");
        Check.due("Input text: without the second", x.size(4) + " " + x.size(5) + " " + x.size(6), "1 4 4");
    }

    private static void settingsRanges() {
        loads("Input text: MOST 1 to 6", "palette most 1;", "0 at -1");
        loads("Input text: MOST 1 to 6", "palette most 6;", "0 at -1");
        loads("Input text: MOST 1 to 6", "palette most 0;", "-12 at 13");
        loads("Input text: MOST 1 to 6", "palette most 7;", "-12 at 13");
        loads("Input text: TOLERANCE (0 to 99999)", "palette tolerance 0;", "0 at -1");
        loads("Input text: TOLERANCE (0 to 99999)", "palette tolerance 99999;", "0 at -1");
        loads("Input text: TOLERANCE (0 to 99999)", "palette tolerance 100000;", "-12 at 18");
        loads("Grammar: each once, in this order", "palette brushes 1 brushes 1;", "-11 at 18");
        loads("Grammar: each once, in this order", "palette most 1 brushes 1;", "-11 at 15");
        loads("Grammar: each once, in this order", "palette tolerance 1 most 1;", "-11 at 20");
    }

    // ---- errors of texts

    private static final String[] TEXT = {"palette", "brushes", "1", "most", "2", "tolerance", "0", ";", "tube", "a", "1", "2", "3", "4", ";",
        "tube", "b", "1", "2", "3", ";", "mix", "m", "=", "1", "a", "+", "2", "b", ";", "mix", "n", "=", "1", "b", ";"};

    private static void textsThatEndEarly() {
        StringBuilder text = new StringBuilder();
        int tubes = 0;
        for (int i = 0; i < TEXT.length; i++) {
            text.append(TEXT[i]);
            tubes += i == 14 || i == 20 ? 1 : 0;
            boolean whole = TEXT[i].equals(";");
            String what = "Errors: the text ends too early (the position is then the length of the text)";
            loads(what, text.toString(), whole ? tubes + " at -1" : "-11 at " + text.length());
            loads(what, text + " \n ", whole ? tubes + " at -1" : "-11 at " + (text.length() + 3));
            text.append(i % 3 == 0 ? "\n" : "  ");
        }
        loads("Errors: the text ends too early", "", "-11 at 0");
        loads("Errors: the text ends too early", "\n", "-11 at 1");
    }

    private static void missing() {
        String what = "Errors: 1, ';' where something is missing";
        loads(what, "palette brushes ;", "-11 at 16");
        loads(what, "palette most ;", "-11 at 13");
        loads(what, "palette tolerance ;", "-11 at 18");
        loads(what, "palette; tube ;", "-11 at 14");
        loads(what, "palette; tube a ;", "-11 at 16");
        loads(what, "palette; tube a 1 ;", "-11 at 18");
        loads(what, "palette; tube a 1 2 ;", "-11 at 20");
        loads(what, "palette; mix ;", "-11 at 13");
        String tube = "palette; tube a 1 2 3; mix ";
        loads(what, tube + "m ;", "-11 at 29");
        loads(what, tube + "m = ;", "-11 at 31");
        loads(what, tube + "m = 1 ;", "-11 at 33");
        loads(what, tube + "m = 1 a + ;", "-11 at 37");
        loads(what, tube + "m = 1 a + 1 ;", "-11 at 39");
    }

    private static void tokensNotAllowed() {
        for (int wrong = 0; wrong < TEXT.length; wrong++) {
            for (String token : new String[] {"#", "(", "?", "(0)"}) {
                StringBuilder text = new StringBuilder();
                int at = 0;
                for (int i = 0; i < TEXT.length; i++) {
                    at = i == wrong ? text.length() : at;
                    text.append(i == wrong ? token : TEXT[i]).append(' ');
                }
                loads("Errors: 1, the token is invalid, at its first byte", text.toString(), "-11 at " + at);
            }
        }
        for (String word : new String[] {"qalette", "palettd", "palett", "palettes", "p", "tube", "mix"}) {
            loads("Errors: 1, another word", word + ";", "-11 at 0");
        }
        for (String word : new String[] {"tub", "tubf", "uube", "mi", "mixx", "nix", "palette", "most", "brushes"}) {
            loads("Errors: 1, another word", "palette; " + word + " a 1 2 3;", "-11 at 9");
        }
        for (String word : new String[] {"brush", "brushet", "crushes", "mos", "nost", "tolerances", "uolerance"}) {
            loads("Errors: 1, another word", "palette " + word + " 1;", "-11 at 8");
        }
        loads("Errors: 1, not allowed here", "palette;;", "-11 at 8");
        loads("Errors: 1, not allowed here", "palette palette;", "-11 at 8");
        loads("Errors: 1, not allowed here", "palette; palette;", "-11 at 9");
        loads("Errors: 1, not allowed here", "palette; tube a 1 2 3 4 5;", "-11 at 24");
        loads("Errors: 1, not allowed here", "palette; tube a b 1 2 3;", "-11 at 16");
        loads("Errors: 1, not allowed here", "palette; tube a 1 2 3; mix m = 1 a 1 a;", "-11 at 35");
        loads("Errors: 1, not allowed here", "palette; tube a 1 2 3; mix m = a;", "-11 at 31");
        loads("Errors: 1, not allowed here", "palette; tube a 1 2 3; mix m = 1 1 a;", "-11 at 33");
        loads("Errors: 1, not allowed here", "palette; tube a 1 2 3; mix m = + 1 a;", "-11 at 31");
        loads("Errors: 1, not allowed here", "palette; tubes a 1 2 3;", "-11 at 9");
    }

    private static void severalCodes() {
        String what = "Errors: the first error along the text";
        loads(what, "palette most 7; tube a 256 256 256; #", "-12 at 13");
        loads(what, "palette; tube a 0 256 #;", "-12 at 18");
        loads(what, "palette; tube a 0 # 256;", "-11 at 18");
        loads(what, "palette; tube abcdefghi 0 0 0; tube a 256", "-12 at 14");
        loads(what, "palette; tube a 0 0 0; mix a = 1 b;", "-13 at 27");
        loads(what, "palette; tube a 0 0 0; mix b = 0 c;", "-12 at 31");
        loads(what, "palette; tube a 0 0 0; mix b = 1 c + 0 a;", "-14 at 33");
        what = "Errors: if several codes apply to one token, the smallest one";
        loads(what, "palette 100000;", "-11 at 8");
        loads(what, "palette; tube a 1 2 3 4 10000;", "-11 at 24");
        loads(what, "palette; tube 99999 1 2 3;", "-11 at 14");
        String four = "palette; tube a 0 0 0; tube b 0 0 0; tube c 0 0 0; tube d 0 0 0; mix m=1a+1b+1c+1d";
        loads(what, four + "+10a;", "-12 at " + (four.length() + 1));
        loads(what, four + "+0a;", "-12 at " + (four.length() + 1));
        loads(what, four + "+a;", "-11 at " + (four.length() + 1));
        loads("Errors: 3, the number of a fifth part", four + "+1a;", "-13 at " + (four.length() + 1));
        loads("Errors: 3, the number of a fifth part", four + "+9", "-13 at " + (four.length() + 1));
        loads("Errors: 3, the number of a fifth part", four + "+", "-11 at " + (four.length() + 1));
        what = "Errors: 4, a TUBE that is none";
        loads(what, "palette; mix m = 1 a; tube a 0 0 0;", "-14 at 19");
        loads(what, "palette; tube a 0 0 0; mix m = 1 m;", "-14 at 33");
        loads(what, "palette; tube a 0 0 0; mix m = 1 a; mix n = 1 m;", "-14 at 46");
        loads(what, "palette; tube abcdefgh 0 0 0; mix m = 1 abcdefghi;", "-14 at 40");
        loads(what, "palette; tube abcdefgh 0 0 0; mix m = 1 abcdefg;", "-14 at 40");
    }

    private static void keywordsOfThe21st() {
        String tubes = manyTubes(20);
        String mixes = manyMixes(20);
        String what = "Errors: 3, the keyword of the 21st";
        loads(what, tubes + "  tube", "-13 at " + (tubes.length() + 2));
        loads(what, tubes + "tube abcdefghi", "-13 at " + tubes.length());
        loads(what, tubes + "mix", "-11 at " + (tubes.length() + 3));
        loads(what, tubes + "mix z = 1 t;", "20 at -1");
        loads(what, mixes + "mix", "-13 at " + mixes.length());
        loads(what, mixes + "mix ma", "-13 at " + mixes.length());
        loads(what, mixes + "tube", "-11 at " + (mixes.length() + 4));
        loads(what, mixes + "tube z 0 0 0;", "3 at -1");
        loads(what, mixes + "tubes", "-11 at " + mixes.length());
    }

    // ---- queries

    private static void queryNumbers() {
        PaletteTubes x = Check.loaded("palette; tube a 0 0 0 9999; mix m = 1a;");
        asks(x, "many 0=0", "1 at -1");
        asks(x, "many 9999=9999", "1 at -1");
        asks(x, "many 9999>9998", "1 at -1");
        asks(x, "many strokes=9999", "1 at -1");
        asks(x, "many 10000=1", "error 2 at 5");
        asks(x, "many 1<10000", "error 2 at 7");
        asks(x, "many 10000", "error 2 at 5");
        asks(x, "many 1=1 10000", "error 1 at 9");
        asks(x, "10000", "error 1 at 0");
        asks(x, "many mix=0 and red=0 and green=0 and blue=0 and tubes=1 and parts=1 and broken=0", "1 at -1");
        x = Check.loaded("palette; tube a 0 0 0 9999; tube b 40 80 120 70; mix m = 1a; mix n = 3b + 1a;");
        asks(x, "first mix=1", "1 at -1");
        asks(x, "first tubes=2", "1 at -1");
        asks(x, "first parts=4", "1 at -1");
        asks(x, "first red=30", "1 at -1");
        asks(x, "first green=60", "1 at -1");
        asks(x, "first blue=90", "1 at -1");
        asks(x, "first strokes=23", "1 at -1");
        asks(x, "first broken=1", "-1 at -1");
        x.retire(1, true);
        asks(x, "first broken=1", "1 at -1");
        asks(x, "many broken>1", "0 at -1");
        PaletteTubes y = new PaletteTubes();
        asks(y, "many 10000=1", "error 2 at 5");
        asks(y, "many 1=1", "0 at -1");
        asks(y, "first 1=1", "-1 at -1");
    }

    private static void queryComparisons() {
        PaletteTubes x = Check.loaded(manyMixes(20));
        asks(x, "many mix<0", "0 at -1");
        asks(x, "many mix<1", "1 at -1");
        asks(x, "many mix>0", "19 at -1");
        asks(x, "many mix>18", "1 at -1");
        asks(x, "many mix>19", "0 at -1");
        asks(x, "first mix>18", "19 at -1");
        asks(x, "first mix>19", "-1 at -1");
        asks(x, "first mix=mix", "0 at -1");
        asks(x, "many mix=mix", "20 at -1");
        asks(x, "many mix<mix", "0 at -1");
        asks(x, "many mix>mix", "0 at -1");
        asks(x, "many 18<mix", "1 at -1");
        asks(x, "many 1>mix", "1 at -1");
        asks(x, "many mix=0 or mix=1 and mix=2", "1 at -1");
        asks(x, "many mix=1 and mix=2 or mix=0", "1 at -1");
        asks(x, "many (mix=0 or mix=1) and mix<1", "1 at -1");
        asks(x, "many not mix=0 and mix<2", "1 at -1");
        asks(x, "many not mix=0 or mix=0", "20 at -1");
        asks(x, "many not (mix=0 or mix=1)", "18 at -1");
        x.retire(1, true);
        asks(x, "many broken=1", "20 at -1");
        x.retire(1, false);
        asks(x, "many broken=0", "20 at -1");
        asks(x, "many broken<1", "20 at -1");
    }

    private static void queryDepth() {
        PaletteTubes x = Check.loaded("palette; tube a 0 0 0; mix m = 1a;");
        asks(x, "many not not not not not not 1=1", "1 at -1");
        asks(x, "many not not not not not not not 1=1", "error 3 at 29");
        asks(x, "many((((((1=1))))))", "1 at -1");
        asks(x, "many(((((((1=1)))))))", "error 3 at 10");
        asks(x, "many not(not(not(1=1)))", "0 at -1");
        asks(x, "many not(not(not(not 1=1)))", "error 3 at 17");
        asks(x, "many not(not(not((1=1))))", "error 3 at 17");
        asks(x, "many (((((not 1=2 and not 1=2)))))", "1 at -1");
        asks(x, "many (((((not (1=1))))))", "error 3 at 14");
        asks(x, "many ((((((1=1)) or (1=2)) and 1=1) or ((((1=1))))))", "1 at -1");
        asks(x, "many ((((((1=1)) or (1=2)) and 1=1) or (((((1=1)))))))", "error 3 at 43");
        asks(x, "many ((((((1=1)) or (1=2)) and 1=1) or (((1=1)))))", "1 at -1");
        asks(x, "many (((((1=1 or ((1=1)", "error 3 at 18");
        asks(x, "many (((((1=1 or (1=1))))))", "1 at -1");
        asks(x, "many not not not not not not 1=2 or not not not not not not 1=1", "1 at -1");
        asks(x, "many not not not not not (1=1) and not not not not not not 1=1", "0 at -1");
        asks(x, "many not not not not not ((1=1))", "error 3 at 26");
        asks(x, "many not not not not not not not", "error 3 at 29");
        asks(x, "many ((((((", "error 1 at 11");
        asks(x, "many ((((((not", "error 3 at 11");
        asks(x, "many ((((((1=not", "error 1 at 13");
    }

    private static final String[] QUERY = {"many", "not", "(", "mix", "=", "1", "or", "2", "<", "parts", "and", "9999", ">", "red", ")"};

    private static void queryTextsThatEndEarly() {
        PaletteTubes x = Check.loaded("palette; tube a 0 0 0; mix m = 1a;");
        StringBuilder text = new StringBuilder();
        for (int i = 0; i < QUERY.length; i++) {
            text.append(QUERY[i]);
            boolean whole = i == QUERY.length - 1;
            asks(x, text.toString(), whole ? "1 at -1" : "error 1 at " + text.length());
            asks(x, text + "\n ", whole ? "1 at -1" : "error 1 at " + (text.length() + 2));
            asks(x, text + " #", "error 1 at " + (text.length() + 1));
            asks(x, text + " ;", "error 1 at " + (text.length() + 1));
            text.append(' ');
        }
        asks(x, "", "error 1 at 0");
        asks(x, " ", "error 1 at 1");
        asks(x, "many mix=0)", "error 1 at 10");
        asks(x, "many many mix=0", "error 1 at 5");
        asks(x, "many () ", "error 1 at 6");
        asks(x, "many drops=0", "error 1 at 5");
        asks(x, "manyfirst mix=0", "error 1 at 0");
        asks(x, "many mix==0", "error 1 at 9");
        asks(x, "many mix=0 or and mix=0", "error 1 at 14");
        asks(x, "many mix=or mix=0", "error 1 at 9");
        asks(x, "many mix=and mix=0", "error 1 at 9");
        asks(x, "many or mix=0", "error 1 at 5");
        asks(x, "many not or mix=0", "error 1 at 9");
        asks(x, "many (mix=) or mix=0", "error 1 at 10");
        asks(x, "many (mix=0 or ) or mix=0", "error 1 at 15");
        asks(x, "many (mix) or mix=0", "error 1 at 9");
        for (String word : new String[] {"mixx", "mi", "nix", "tube", "part", "reds", "gree", "blu", "break", "stroke", "most", "many", "drops"}) {
            asks(x, "many " + word + "=1", "error 1 at 5");
            asks(x, "many 1=" + word, "error 1 at 7");
        }
        for (String word : new String[] {"man", "manyy", "lany", "firs", "girst", "firsts", "all", "not", "mix"}) {
            asks(x, word + " mix=0", "error 1 at 0");
        }
        asks(x, "many mix=0 not mix=0", "error 1 at 11");
    }
}
