import java.util.Arrays;
import java.util.NoSuchElementException;

/** A palette of tubes, named mixes, brushes and water, as ../shared/DOC.md promises it. */
public final class PaletteTubes {
    public static final int NONE = -1;
    public static final int HIDDEN = -1000000000;

    private static final int MAX_BYTES = 900;
    private static final int MAX_SHORT_TEXT = 200;
    private static final int MAX_TUBES = 20;
    private static final int MAX_MIXES = 20;
    private static final int MAX_PARTS = 4;
    private static final int MAX_NAME = 8;
    private static final int MAX_BRUSHES = 6;
    private static final int MAX_PAINTINGS = 12;
    private static final int MAX_UNDO = 10;
    private static final int MAX_DIRT = 3;
    private static final int MAX_TURBIDITY = 9;
    private static final int TURBID = 5;
    private static final int MAX_DROPS = 9999;
    private static final int MAX_MOST = 6;
    private static final int MAX_TOLERANCE = 99999;
    private static final int MAX_SEARCH = 3;
    private static final int MAX_COLOUR = 16777215;
    private static final int BEYOND_FAR = 1000000;

    // The columns of the tables; a name stands first, in tubes and mixes alike.
    private static final int RED = MAX_NAME;
    private static final int DROPS = RED + 3;
    private static final int RETIRED = DROPS + 1;
    private static final int TUBE_WIDTH = RETIRED + 1;
    private static final int COUNT = MAX_NAME;
    private static final int TUBE = COUNT + 1;
    private static final int PARTS = TUBE + MAX_PARTS;
    private static final int MIX_WIDTH = PARTS + MAX_PARTS;
    private static final int DIRT = 3;
    private static final int BRUSH_WIDTH = DIRT + 1;
    private static final int PAINTED = 0;
    private static final int PAINTED_BRUSH = 1;
    private static final int PAINTED_STROKES = 2;
    private static final int PAINTED_MIX = 3;
    private static final int PAINTING_WIDTH = PAINTED_MIX + 1;

    private final Palette palette;
    private final Palette loading;
    private final Palette snapshot;
    private boolean hasSnapshot;
    private final History history;
    private final Tokens tokens;
    private final TextReader textReader;
    private final QueryReader queryReader;
    private final Search search;
    private final StringBuilder formatted;

    public PaletteTubes() {
        palette = new Palette();
        loading = new Palette();
        snapshot = new Palette();
        history = new History();
        tokens = new Tokens();
        textReader = new TextReader();
        queryReader = new QueryReader();
        search = new Search();
        formatted = new StringBuilder();
        palette.reset();
    }

    // ---- the buffer and the texts

    public int feed(int a, int b, int c, int d, int e) {
        if (!tokens.hasRoom(20)) {
            return NONE;
        }
        tokens.append(a);
        tokens.append(b);
        tokens.append(c);
        tokens.append(d);
        tokens.append(e);
        return tokens.fed;
    }

    public int load(int length) throws IllegalArgumentException {
        requireLength(length, MAX_BYTES);
        tokens.begin(length);
        boolean read = textReader.readPalette(tokens, loading);
        tokens.discard();
        if (!read) {
            return -10 - tokens.errorCode;
        }
        palette.copyFrom(loading);
        history.forgetAll();
        hasSnapshot = false;
        return palette.tubes.rows;
    }

    public int errorPosition() {
        return tokens.errorAt;
    }

    public int mixed(int length) throws IllegalArgumentException {
        requireLength(length, MAX_SHORT_TEXT);
        tokens.begin(length);
        boolean read = textReader.readBareMix(tokens, palette);
        tokens.discard();
        return read ? palette.colourOf(textReader.told, 0) : -10 - tokens.errorCode;
    }

    public int query(int length) throws IllegalArgumentException {
        requireLength(length, MAX_SHORT_TEXT);
        tokens.begin(length);
        queryReader.prepare(palette);
        int answer = queryReader.answerOf(tokens);
        tokens.discard();
        return tokens.failed() ? HIDDEN - tokens.errorCode : answer;
    }

    public int format(int mix) throws NoSuchElementException {
        requireMix(mix);
        formatted.setLength(0);
        appendName(palette.mixes, mix);
        formatted.append('=');
        int count = palette.mixes.get(mix, COUNT);
        for (int i = 0; i < count; i++) {
            if (i > 0) {
                formatted.append('+');
            }
            formatted.append(palette.mixes.get(mix, PARTS + i));
            appendName(palette.tubes, palette.mixes.get(mix, TUBE + i));
        }
        if (palette.isBroken(mix)) {
            formatted.append('!');
        }
        return formatted.length();
    }

    private void appendName(Table table, int row) {
        for (int i = 0; i < MAX_NAME; i++) {
            int letter = table.get(row, i);
            if (letter != 0) {
                formatted.append((char) letter);
            }
        }
    }

    public int formattedByte(int index) {
        return index >= 0 && index < formatted.length() ? formatted.charAt(index) : NONE;
    }

    // ---- what is asked of the palette

    public int size(int what) throws NoSuchElementException {
        requireWhat(what, 9);
        switch (what) {
            case 0: return palette.tubes.rows;
            case 1: return palette.tubesInUse();
            case 2: return palette.mixes.rows;
            case 3: return palette.brokenMixes();
            case 4: return palette.brushes.rows;
            case 5: return palette.most;
            case 6: return palette.tolerance;
            case 7: return palette.turbidity;
            case 8: return palette.paintings.rows;
            default: return palette.dropsLeft(true);
        }
    }

    public int tube(int tube, int what) throws NoSuchElementException {
        requireTube(tube);
        requireWhat(what, 5);
        switch (what) {
            case 3: return palette.tubes.get(tube, DROPS);
            case 4: return palette.isInUse(tube) ? 1 : 0;
            case 5: return palette.usersOf(tube);
            default: return palette.tubes.get(tube, RED + what);
        }
    }

    public int mix(int mix, int what) throws NoSuchElementException {
        requireMix(mix);
        requireWhat(what, 5);
        switch (what) {
            case 3: return palette.mixes.get(mix, COUNT);
            case 4: return palette.partsOf(mix);
            case 5: return palette.isBroken(mix) ? 1 : 0;
            default: return palette.valueOf(palette.mixes, mix, what);
        }
    }

    public int partOf(int mix, int i, boolean ofParts) throws NoSuchElementException {
        requireMix(mix);
        requireWhat(i, palette.mixes.get(mix, COUNT) - 1);
        return palette.mixes.get(mix, (ofParts ? PARTS : TUBE) + i);
    }

    public int letter(boolean ofMix, int number, int index) throws NoSuchElementException {
        if (ofMix) {
            requireMix(number);
        } else {
            requireTube(number);
        }
        if (index < 0 || index >= MAX_NAME) {
            return NONE;
        }
        int letter = (ofMix ? palette.mixes : palette.tubes).get(number, index);
        return letter == 0 ? NONE : letter;
    }

    public int apart(int colour, int other) throws IllegalArgumentException {
        requireColour(colour);
        requireColour(other);
        return farBetween(colour, other);
    }

    public int called(int colour) throws IllegalArgumentException {
        requireColour(colour);
        int least = NONE;
        int leastFar = BEYOND_FAR;
        for (int mix = 0; mix < palette.mixes.rows; mix++) {
            int far = farBetween(palette.colourOf(palette.mixes, mix), colour);
            if (far < leastFar) {
                leastFar = far;
                least = mix;
            }
        }
        return least;
    }

    public int nearest(int colour, int k, int what) throws NoSuchElementException, IllegalArgumentException {
        requireWhat(what, Search.FIGURES - 1);
        requireColour(colour);
        requireArgument(k, 1, MAX_SEARCH);
        search.run(palette, colour, k);
        return search.figure(what);
    }

    public int fewest(int colour) throws IllegalArgumentException {
        requireColour(colour);
        search.begin(palette, colour);
        for (int k = 1; k <= MAX_SEARCH; k++) {
            search.tryAllOf(k);
            if (search.leastFar <= palette.tolerance) {
                return k;
            }
        }
        return NONE;
    }

    public int strokes(int mix) throws NoSuchElementException {
        requireMix(mix);
        return palette.strokesLeft(mix);
    }

    public int shortest(int mix) throws NoSuchElementException {
        requireMix(mix);
        return palette.tubeUsedUpFirst(mix);
    }

    public int wouldPaint(int brush, int mix) throws NoSuchElementException {
        requireBrush(brush);
        requireMix(mix);
        return palette.paintedColour(brush, mix);
    }

    public int brush(int brush, int what) throws NoSuchElementException {
        requireBrush(brush);
        requireWhat(what, BRUSH_WIDTH - 1);
        return palette.brushes.get(brush, what);
    }

    public int bestBrush(int mix) throws NoSuchElementException {
        requireMix(mix);
        int own = palette.colourOf(palette.mixes, mix);
        int best = NONE;
        int leastFar = BEYOND_FAR;
        for (int brush = 0; brush < palette.brushes.rows; brush++) {
            int far = farBetween(palette.paintedColour(brush, mix), own);
            if (far < leastFar) {
                leastFar = far;
                best = brush;
            }
        }
        return best;
    }

    public int painting(int index, int what) throws NoSuchElementException {
        requireWhat(index, palette.paintings.rows - 1);
        requireWhat(what, PAINTING_WIDTH - 1);
        return palette.paintings.get(index, what);
    }

    public int spare() {
        int spare = NONE;
        int fewestUsers = MAX_MIXES + 1;
        for (int tube = 0; tube < palette.tubes.rows; tube++) {
            int users = palette.usersOf(tube);
            if (palette.isInUse(tube) && users < fewestUsers) {
                fewestUsers = users;
                spare = tube;
            }
        }
        return spare;
    }

    public int closest() {
        int pair = NONE;
        int leastFar = BEYOND_FAR;
        for (int mix = 0; mix < palette.mixes.rows; mix++) {
            int colour = palette.colourOf(palette.mixes, mix);
            for (int other = mix + 1; other < palette.mixes.rows; other++) {
                int far = farBetween(colour, palette.colourOf(palette.mixes, other));
                if (far < leastFar) {
                    leastFar = far;
                    pair = 100 * mix + other;
                }
            }
        }
        return pair;
    }

    public int twins() {
        int pairs = 0;
        for (int mix = 0; mix < palette.mixes.rows; mix++) {
            int colour = palette.colourOf(palette.mixes, mix);
            for (int other = mix + 1; other < palette.mixes.rows; other++) {
                if (colour == palette.colourOf(palette.mixes, other)) {
                    pairs++;
                }
            }
        }
        return pairs;
    }

    public int loss(int mix) throws NoSuchElementException {
        requireMix(mix);
        search.run(palette, palette.colourOf(palette.mixes, mix), MAX_SEARCH);
        return search.figure(Search.FAR);
    }

    public double meanDrops() {
        int tubes = palette.tubesInUse();
        return tubes == 0 ? 0.0 : (double) palette.dropsLeft(false) / (double) tubes;
    }

    public float brokenShare() {
        int all = palette.mixes.rows;
        return all == 0 ? 0.0f : (float) palette.brokenMixes() / (float) all;
    }

    // ---- the operations

    public int define(int length) throws IllegalArgumentException {
        requireLength(length, MAX_SHORT_TEXT);
        tokens.begin(length);
        boolean read = textReader.readDefinition(tokens, palette);
        tokens.discard();
        if (!read) {
            return -10 - tokens.errorCode;
        }
        history.record(palette);
        return textReader.placeTold(palette);
    }

    public int forget(int mix) throws NoSuchElementException {
        requireMix(mix);
        history.record(palette);
        palette.mixes.removeRow(mix);
        return palette.mixes.rows;
    }

    public int retire(int tube, boolean retired) throws NoSuchElementException {
        requireTube(tube);
        history.record(palette);
        palette.tubes.set(tube, RETIRED, retired ? 1 : 0);
        return palette.brokenMixes();
    }

    public int heal(int mix) throws NoSuchElementException {
        requireMix(mix);
        if (!palette.isBroken(mix)) {
            return -2;
        }
        if (palette.tubesInUse() == 0) {
            return -3;
        }
        search.run(palette, palette.colourOf(palette.mixes, mix), MAX_SEARCH);
        if (search.leastFar > palette.tolerance) {
            return -4;
        }
        history.record(palette);
        search.writeTo(palette.mixes, mix);
        return search.leastFar;
    }

    public int paint(int brush, int mix, int strokes) throws NoSuchElementException, IllegalArgumentException {
        requireBrush(brush);
        requireMix(mix);
        requireArgument(strokes, 1, 99);
        if (palette.isBroken(mix)) {
            return -2;
        }
        if (palette.strokesLeft(mix) < strokes) {
            return -3;
        }
        history.record(palette);
        return palette.paintStrokes(brush, mix, strokes);
    }

    public int clean(int brush) throws NoSuchElementException {
        requireBrush(brush);
        history.record(palette);
        return palette.cleanBrush(brush);
    }

    public int change() {
        history.record(palette);
        int before = palette.turbidity;
        palette.turbidity = 0;
        return before;
    }

    public int refill(int tube, int drops) throws NoSuchElementException, IllegalArgumentException {
        requireTube(tube);
        requireArgument(drops, 1, 999);
        int left = palette.tubes.get(tube, DROPS) + drops;
        if (left > MAX_DROPS) {
            return -2;
        }
        history.record(palette);
        palette.tubes.set(tube, DROPS, left);
        return left;
    }

    public int setMost(int most) throws IllegalArgumentException {
        requireArgument(most, 1, MAX_MOST);
        history.record(palette);
        int before = palette.most;
        palette.most = most;
        return before;
    }

    public int setTolerance(int tolerance) throws IllegalArgumentException {
        requireArgument(tolerance, 0, MAX_TOLERANCE);
        history.record(palette);
        int before = palette.tolerance;
        palette.tolerance = tolerance;
        return before;
    }

    // ---- undo and the snapshot

    public int undoCount() {
        return history.kept;
    }

    public int undo() {
        return history.stepBack(palette) ? history.kept : NONE;
    }

    public void saveSnapshot() {
        snapshot.copyFrom(palette);
        hasSnapshot = true;
    }

    public boolean restoreSnapshot() {
        if (!hasSnapshot) {
            return false;
        }
        palette.copyFrom(snapshot);
        history.forgetAll();
        return true;
    }

    // ---- what the calls ask of their arguments

    private void requireTube(int tube) {
        if (tube < 0 || tube >= palette.tubes.rows) {
            throw new NoSuchElementException("no such tube");
        }
    }

    private void requireMix(int mix) {
        if (mix < 0 || mix >= palette.mixes.rows) {
            throw new NoSuchElementException("no such mix");
        }
    }

    private void requireBrush(int brush) {
        if (brush < 0 || brush >= palette.brushes.rows) {
            throw new NoSuchElementException("no such brush");
        }
    }

    private static void requireWhat(int what, int last) {
        if (what < 0 || what > last) {
            throw new NoSuchElementException("there are not so many");
        }
    }

    private static void requireArgument(int value, int least, int most) {
        if (value < least || value > most) {
            throw new IllegalArgumentException("a number out of range");
        }
    }

    private static void requireColour(int colour) {
        requireArgument(colour, 0, MAX_COLOUR);
    }

    private void requireLength(int length, int most) {
        requireArgument(length, 0, Math.min(most, tokens.fed));
    }

    // ---- colours

    private static int channel(int colour, int which) {
        return (colour >> (16 - 8 * which)) & 255;
    }

    private static int farBetween(int colour, int other) {
        int red = channel(colour, 0) - channel(other, 0);
        int green = channel(colour, 1) - channel(other, 1);
        int blue = channel(colour, 2) - channel(other, 2);
        return 2 * red * red + 4 * green * green + 3 * blue * blue;
    }

    /** The quotient to the nearest number, halves upward; neither number is negative. */
    private static int rounded(int sum, int by) {
        return by <= 0 ? 0 : (2 * sum + by) / (2 * by);
    }

    /** Rows of numbers in one array. What stands outside reads as 0 and is not written. */
    private static final class Table {
        private final int[] cells;
        private final int width;
        int rows;

        Table(int mostRows, int columns) {
            int length = mostRows * columns;
            width = columns;
            cells = new int[length < 0 ? 0 : length];
        }

        int get(int row, int column) {
            int at = row * width + column;
            boolean inside = row >= 0 && row < rows && column >= 0 && column < width;
            return inside && at >= 0 && at < cells.length ? cells[at] : 0;
        }

        void set(int row, int column, int value) {
            int at = row * width + column;
            boolean inside = row >= 0 && row < rows && column >= 0 && column < width;
            if (inside && at >= 0 && at < cells.length) {
                cells[at] = value;
            }
        }

        boolean isFull() {
            return (rows + 1) * width > cells.length;
        }

        void removeAll() {
            rows = 0;
        }

        /** Adds a row of zeros; answers its number, or NONE if there is no room. */
        int addRow() {
            if (isFull()) {
                return NONE;
            }
            rows++;
            for (int column = 0; column < width; column++) {
                set(rows - 1, column, 0);
            }
            return rows - 1;
        }

        /** Moves all rows one behind, the last one out if there is no room; row 0 is to be written anew. */
        void addFirst() {
            if (!isFull()) {
                rows++;
            }
            for (int row = rows - 1; row > 0; row--) {
                copyRow(row, this, row - 1);
            }
        }

        void removeRow(int removed) {
            for (int row = removed; row < rows - 1; row++) {
                copyRow(row, this, row + 1);
            }
            if (removed >= 0 && removed < rows) {
                rows--;
            }
        }

        void copyRow(int row, Table from, int fromRow) {
            for (int column = 0; column < width; column++) {
                set(row, column, from.get(fromRow, column));
            }
        }

        void copyFrom(Table from) {
            int length = from.rows * from.width;
            if (length >= 0 && length <= cells.length && length <= from.cells.length) {
                System.arraycopy(from.cells, 0, cells, 0, length);
                rows = from.rows;
            }
        }

        void setName(int row, int[] letters) {
            for (int i = 0; i < letters.length; i++) {
                set(row, i, letters[i]);
            }
        }

        /** The row that has this name; NONE if there is none. */
        int rowNamed(int[] letters) {
            for (int row = 0; row < rows; row++) {
                if (hasName(row, letters)) {
                    return row;
                }
            }
            return NONE;
        }

        private boolean hasName(int row, int[] letters) {
            for (int i = 0; i < letters.length; i++) {
                if (get(row, i) != letters[i]) {
                    return false;
                }
            }
            return true;
        }
    }

    /** Everything that undoing restores, and what follows from it. */
    private static final class Palette {
        final Table tubes;
        final Table mixes;
        final Table brushes;
        final Table paintings;
        int most;
        int tolerance;
        int turbidity;

        Palette() {
            tubes = new Table(MAX_TUBES, TUBE_WIDTH);
            mixes = new Table(MAX_MIXES, MIX_WIDTH);
            brushes = new Table(MAX_BRUSHES, BRUSH_WIDTH);
            paintings = new Table(MAX_PAINTINGS, PAINTING_WIDTH);
        }

        /** Makes it what the text "palette;" tells. */
        void reset() {
            tubes.removeAll();
            mixes.removeAll();
            paintings.removeAll();
            setBrushes(2);
            most = 4;
            tolerance = 300;
            turbidity = 0;
        }

        void setBrushes(int count) {
            brushes.removeAll();
            for (int i = 0; i < count; i++) {
                brushes.addRow();
            }
        }

        void copyFrom(Palette from) {
            tubes.copyFrom(from.tubes);
            mixes.copyFrom(from.mixes);
            brushes.copyFrom(from.brushes);
            paintings.copyFrom(from.paintings);
            most = from.most;
            tolerance = from.tolerance;
            turbidity = from.turbidity;
        }

        boolean isInUse(int tube) {
            return tubes.get(tube, RETIRED) == 0;
        }

        int tubesInUse() {
            int count = 0;
            for (int tube = 0; tube < tubes.rows; tube++) {
                count += isInUse(tube) ? 1 : 0;
            }
            return count;
        }

        int dropsLeft(boolean retiredToo) {
            int drops = 0;
            for (int tube = 0; tube < tubes.rows; tube++) {
                if (retiredToo || isInUse(tube)) {
                    drops += tubes.get(tube, DROPS);
                }
            }
            return drops;
        }

        boolean uses(Table table, int row, int tube) {
            int count = table.get(row, COUNT);
            for (int i = 0; i < count; i++) {
                if (table.get(row, TUBE + i) == tube) {
                    return true;
                }
            }
            return false;
        }

        int usersOf(int tube) {
            int users = 0;
            for (int mix = 0; mix < mixes.rows; mix++) {
                users += uses(mixes, mix, tube) ? 1 : 0;
            }
            return users;
        }

        boolean isBroken(int mix) {
            int count = mixes.get(mix, COUNT);
            for (int i = 0; i < count; i++) {
                if (!isInUse(mixes.get(mix, TUBE + i))) {
                    return true;
                }
            }
            return false;
        }

        int brokenMixes() {
            int broken = 0;
            for (int mix = 0; mix < mixes.rows; mix++) {
                broken += isBroken(mix) ? 1 : 0;
            }
            return broken;
        }

        int partsOf(int mix) {
            int parts = 0;
            int count = mixes.get(mix, COUNT);
            for (int i = 0; i < count; i++) {
                parts += mixes.get(mix, PARTS + i);
            }
            return parts;
        }

        /** Red, green or blue (0 to 2) of the mix in a row of a table of mixes. */
        int valueOf(Table table, int row, int which) {
            int sum = 0;
            int all = 0;
            int count = table.get(row, COUNT);
            for (int i = 0; i < count; i++) {
                int parts = table.get(row, PARTS + i);
                sum += parts * tubes.get(table.get(row, TUBE + i), RED + which);
                all += parts;
            }
            return rounded(sum, all);
        }

        int colourOf(Table table, int row) {
            int colour = 0;
            for (int which = 0; which < 3; which++) {
                colour = 256 * colour + valueOf(table, row, which);
            }
            return colour;
        }

        int strokesOfPart(int mix, int i) {
            int parts = mixes.get(mix, PARTS + i);
            return parts <= 0 ? 0 : tubes.get(mixes.get(mix, TUBE + i), DROPS) / parts;
        }

        int strokesLeft(int mix) {
            int least = MAX_DROPS;
            int count = mixes.get(mix, COUNT);
            for (int i = 0; i < count; i++) {
                least = Math.min(least, strokesOfPart(mix, i));
            }
            return least;
        }

        int tubeUsedUpFirst(int mix) {
            int least = strokesLeft(mix);
            int first = MAX_TUBES;
            int count = mixes.get(mix, COUNT);
            for (int i = 0; i < count; i++) {
                if (strokesOfPart(mix, i) == least) {
                    first = Math.min(first, mixes.get(mix, TUBE + i));
                }
            }
            return first;
        }

        int paintedColour(int brush, int mix) {
            int dirt = brushes.get(brush, DIRT);
            int colour = 0;
            for (int which = 0; which < 3; which++) {
                int sum = 4 * valueOf(mixes, mix, which) + dirt * brushes.get(brush, which);
                colour = 256 * colour + rounded(sum, 4 + dirt);
            }
            return colour;
        }

        int paintStrokes(int brush, int mix, int strokes) {
            int colour = paintedColour(brush, mix);
            paintings.addFirst();
            paintings.set(0, PAINTED, colour);
            paintings.set(0, PAINTED_BRUSH, brush);
            paintings.set(0, PAINTED_STROKES, strokes);
            paintings.set(0, PAINTED_MIX, colourOf(mixes, mix));
            int count = mixes.get(mix, COUNT);
            for (int i = 0; i < count; i++) {
                int tube = mixes.get(mix, TUBE + i);
                tubes.set(tube, DROPS, tubes.get(tube, DROPS) - strokes * mixes.get(mix, PARTS + i));
            }
            for (int which = 0; which < 3; which++) {
                brushes.set(brush, which, channel(colour, which));
            }
            brushes.set(brush, DIRT, Math.min(MAX_DIRT, brushes.get(brush, DIRT) + 1));
            return colour;
        }

        int cleanBrush(int brush) {
            int dirt = brushes.get(brush, DIRT);
            brushes.set(brush, DIRT, turbidity < TURBID ? 0 : Math.min(1, dirt));
            turbidity = Math.min(MAX_TURBIDITY, turbidity + dirt);
            return turbidity;
        }
    }

    /** The palettes as they were ahead of the latest operations, in a ring. */
    private static final class History {
        private final Palette[] past;
        private int next;
        int kept;

        History() {
            past = new Palette[MAX_UNDO];
            for (int i = 0; i < past.length; i++) {
                past[i] = new Palette();
            }
        }

        private Palette slot(int at) {
            return at >= 0 && at < past.length ? past[at] : null;
        }

        void forgetAll() {
            kept = 0;
        }

        void record(Palette now) {
            Palette slot = slot(next);
            if (slot == null) {
                return;
            }
            slot.copyFrom(now);
            next = (next + 1) % MAX_UNDO;
            kept = Math.min(MAX_UNDO, kept + 1);
        }

        boolean stepBack(Palette now) {
            int last = (next + MAX_UNDO - 1) % MAX_UNDO;
            Palette slot = slot(last);
            if (kept == 0 || slot == null) {
                return false;
            }
            now.copyFrom(slot);
            next = last;
            kept--;
            return true;
        }
    }

    /** The nearest mix to a colour: small mixes are tried in their order, so only a less far one is ahead. */
    private static final class Search {
        /** The numbers that nearest tells, by its parameter what. */
        static final int FIGURES = 10;
        static final int FAR = 3;
        private static final int COLOUR = 0;
        private static final int TUBES = 1;
        private static final int ALL_PARTS = 2;
        private static final int FIRST_TUBE = 4;
        private static final int FIRST_PARTS = 7;

        private final int[] numbers;
        private final int[] reds;
        private final int[] greens;
        private final int[] blues;
        private final int[] best;
        private int inUse;
        private int most;
        private int red;
        private int green;
        private int blue;
        int leastFar;

        Search() {
            numbers = new int[MAX_TUBES];
            reds = new int[MAX_TUBES];
            greens = new int[MAX_TUBES];
            blues = new int[MAX_TUBES];
            best = new int[FIGURES];
        }

        void run(Palette palette, int colour, int k) {
            begin(palette, colour);
            for (int tubes = 1; tubes <= k; tubes++) {
                tryAllOf(tubes);
            }
        }

        void begin(Palette palette, int colour) {
            red = channel(colour, 0);
            green = channel(colour, 1);
            blue = channel(colour, 2);
            most = palette.most;
            leastFar = BEYOND_FAR;
            Arrays.fill(best, NONE);
            inUse = 0;
            for (int tube = 0; tube < palette.tubes.rows; tube++) {
                if (palette.isInUse(tube) && inUse < MAX_TUBES) {
                    numbers[inUse] = tube;
                    reds[inUse] = palette.tubes.get(tube, RED);
                    greens[inUse] = palette.tubes.get(tube, RED + 1);
                    blues[inUse] = palette.tubes.get(tube, RED + 2);
                    inUse++;
                }
            }
        }

        /** Tries all small mixes of exactly so many tubes, behind those of fewer. */
        void tryAllOf(int tubes) {
            for (int all = tubes; all <= most && leastFar > 0; all++) {
                for (int first = 0; first < inUse; first++) {
                    if (tubes == 1) {
                        offer(first, first, first, all, 0, 0);
                    } else if (tubes == 2) {
                        tryPairs(first, all);
                    } else {
                        tryTriples(first, all);
                    }
                }
            }
        }

        private void tryPairs(int first, int all) {
            for (int second = first + 1; second < inUse; second++) {
                for (int parts = 1; parts < all; parts++) {
                    offer(first, second, second, parts, all - parts, 0);
                }
            }
        }

        private void tryTriples(int first, int all) {
            for (int second = first + 1; second < inUse; second++) {
                for (int third = second + 1; third < inUse; third++) {
                    for (int parts = 1; parts < all; parts++) {
                        for (int more = 1; more < all - parts; more++) {
                            offer(first, second, third, parts, more, all - parts - more);
                        }
                    }
                }
            }
        }

        /** A tube that is not there has 0 parts, and stands for any place. */
        private void offer(int a, int b, int c, int partsA, int partsB, int partsC) {
            if (a < 0 || b < a || c < b || c >= MAX_TUBES) {
                return;
            }
            int all = partsA + partsB + partsC;
            int mixRed = rounded(partsA * reds[a] + partsB * reds[b] + partsC * reds[c], all);
            int far = 2 * (mixRed - red) * (mixRed - red);
            if (far >= leastFar) {
                return;
            }
            int mixGreen = rounded(partsA * greens[a] + partsB * greens[b] + partsC * greens[c], all);
            far += 4 * (mixGreen - green) * (mixGreen - green);
            if (far >= leastFar) {
                return;
            }
            int mixBlue = rounded(partsA * blues[a] + partsB * blues[b] + partsC * blues[c], all);
            far += 3 * (mixBlue - blue) * (mixBlue - blue);
            if (far >= leastFar) {
                return;
            }
            leastFar = far;
            best[FAR] = far;
            best[COLOUR] = 65536 * mixRed + 256 * mixGreen + mixBlue;
            best[TUBES] = 0;
            best[ALL_PARTS] = all;
            keepPart(numbers[a], partsA);
            keepPart(numbers[b], partsB);
            keepPart(numbers[c], partsC);
        }

        private void keepPart(int tube, int parts) {
            int i = best[TUBES];
            if (parts > 0 && i >= 0 && i < MAX_SEARCH) {
                best[FIRST_TUBE + i] = tube;
                best[FIRST_PARTS + i] = parts;
                best[TUBES] = i + 1;
            }
        }

        int figure(int what) {
            return what >= 0 && what < best.length ? best[what] : NONE;
        }

        /** Puts the nearest mix into a row of a table of mixes. */
        void writeTo(Table table, int row) {
            int count = best[TUBES];
            table.set(row, COUNT, count);
            for (int i = 0; i < count; i++) {
                table.set(row, TUBE + i, figure(FIRST_TUBE + i));
                table.set(row, PARTS + i, figure(FIRST_PARTS + i));
            }
        }
    }

    /** The byte buffer, and the tokens of its first bytes, one at a time. */
    private static final class Tokens {
        private static final int END = 0;
        private static final int WORD = 1;
        private static final int NUMBER = 2;
        private static final int SIGN = 3;
        /** Far above each range, and far below what ten times as much would need. */
        private static final int HUGE = 1000000;

        private final int[] bytes;
        int fed;
        private int end;
        private int next;
        private int kind;
        private int start;
        /** The number, or the byte of a sign. */
        int value;
        private final int[] letters;
        int errorCode;
        int errorAt;

        Tokens() {
            bytes = new int[MAX_BYTES];
            letters = new int[MAX_NAME];
            errorAt = NONE;
        }

        boolean hasRoom(int more) {
            return fed + more <= MAX_BYTES;
        }

        void append(int word) {
            for (int shift = 24; shift >= 0; shift -= 8) {
                if (fed >= 0 && fed < bytes.length) {
                    bytes[fed] = (word >> shift) & 255;
                    fed++;
                }
            }
        }

        void discard() {
            fed = 0;
        }

        void begin(int length) {
            end = length;
            next = 0;
            errorCode = 0;
            errorAt = NONE;
            advance();
        }

        /** Goes to the next token: a run of letters, a run of digits, or any other byte as a sign. */
        void advance() {
            int limit = Math.min(end, bytes.length);
            while (next < limit && (bytes[next] == 32 || bytes[next] == 10)) {
                next++;
            }
            start = next;
            value = 0;
            while (next < limit && bytes[next] >= 'a' && bytes[next] <= 'z') {
                next++;
            }
            if (next > start) {
                kind = WORD;
                return;
            }
            while (next < limit && bytes[next] >= '0' && bytes[next] <= '9') {
                value = Math.min(HUGE, 10 * value + bytes[next] - '0');
                next++;
            }
            if (next > start) {
                kind = NUMBER;
            } else if (next < limit) {
                kind = SIGN;
                value = bytes[next];
                next++;
            } else {
                kind = END;
            }
        }

        boolean atEnd() {
            return kind == END;
        }

        boolean isNumber() {
            return kind == NUMBER;
        }

        boolean isWord() {
            return kind == WORD;
        }

        /** Whether a word is longer than any name. */
        boolean isTooLong() {
            return next - start > MAX_NAME;
        }

        /** The letters of a word that is not too long, zeros behind them; the row is used again. */
        int[] name() {
            for (int i = 0; i < letters.length; i++) {
                int at = start + i;
                letters[i] = at >= 0 && at < next && at < bytes.length ? bytes[at] : 0;
            }
            return letters;
        }

        boolean isSign(int sign) {
            return kind == SIGN && value == sign;
        }

        boolean isWord(String word) {
            if (kind != WORD || next - start != word.length()) {
                return false;
            }
            for (int i = 0; i < word.length(); i++) {
                int at = start + i;
                if (at < 0 || at >= bytes.length || bytes[at] != word.charAt(i)) {
                    return false;
                }
            }
            return true;
        }

        boolean failed() {
            return errorCode != 0;
        }

        /** The first error stays. */
        boolean fail(int code) {
            if (errorCode == 0) {
                errorCode = code;
                errorAt = start;
            }
            return false;
        }

        boolean takeWord(String word) {
            if (!isWord(word)) {
                return fail(1);
            }
            advance();
            return true;
        }

        boolean takeSign(int sign) {
            if (!isSign(sign)) {
                return fail(1);
            }
            advance();
            return true;
        }

        boolean takeEnd() {
            return atEnd() || fail(1);
        }

        /** A number of this range; NONE behind an error. */
        int takeNumber(int least, int most) {
            if (kind != NUMBER) {
                fail(1);
                return NONE;
            }
            int number = value;
            if (number < least || number > most) {
                fail(2);
                return NONE;
            }
            advance();
            return number;
        }
    }

    /** Reads palettes and mixes; its answers are false behind an error. */
    private static final class TextReader {
        /** One row: the mix that is read. */
        final Table told;
        private int toldNumber;

        TextReader() {
            told = new Table(1, MIX_WIDTH);
        }

        boolean readPalette(Tokens tokens, Palette palette) {
            palette.reset();
            if (!tokens.takeWord("palette") || !readSettings(tokens, palette) || !tokens.takeSign(';')) {
                return false;
            }
            for (int clause = 0; clause < MAX_BYTES && !tokens.atEnd(); clause++) {
                boolean read = tokens.isWord("tube") ? readTube(tokens, palette) : readMix(tokens, palette);
                if (!read || !tokens.takeSign(';')) {
                    return false;
                }
            }
            return tokens.takeEnd();
        }

        private boolean readSettings(Tokens tokens, Palette palette) {
            if (tokens.isWord("brushes")) {
                tokens.advance();
                palette.setBrushes(tokens.takeNumber(1, MAX_BRUSHES));
            }
            if (!tokens.failed() && tokens.isWord("most")) {
                tokens.advance();
                palette.most = tokens.takeNumber(1, MAX_MOST);
            }
            if (!tokens.failed() && tokens.isWord("tolerance")) {
                tokens.advance();
                palette.tolerance = tokens.takeNumber(0, MAX_TOLERANCE);
            }
            return !tokens.failed();
        }

        private boolean readTube(Tokens tokens, Palette palette) {
            if (palette.tubes.isFull()) {
                return tokens.fail(3);
            }
            tokens.advance();
            if (!checkFreeName(tokens, palette)) {
                return false;
            }
            int tube = palette.tubes.addRow();
            palette.tubes.setName(tube, tokens.name());
            tokens.advance();
            for (int which = 0; which < 3; which++) {
                int number = tokens.takeNumber(0, 255);
                if (number == NONE) {
                    return false;
                }
                palette.tubes.set(tube, RED + which, number);
            }
            int drops = tokens.isNumber() ? tokens.takeNumber(0, MAX_DROPS) : 100;
            palette.tubes.set(tube, DROPS, drops);
            return drops != NONE;
        }

        private boolean readMix(Tokens tokens, Palette palette) {
            if (!tokens.isWord("mix")) {
                return tokens.fail(1);
            }
            if (palette.mixes.isFull()) {
                return tokens.fail(3);
            }
            tokens.advance();
            if (!checkFreeName(tokens, palette) || !startMix(tokens) || !readParts(tokens, palette)) {
                return false;
            }
            palette.mixes.copyRow(palette.mixes.addRow(), told, 0);
            return true;
        }

        private boolean checkName(Tokens tokens) {
            if (!tokens.isWord()) {
                return tokens.fail(1);
            }
            return !tokens.isTooLong() || tokens.fail(2);
        }

        private boolean checkFreeName(Tokens tokens, Palette palette) {
            if (!checkName(tokens)) {
                return false;
            }
            int[] name = tokens.name();
            boolean taken = palette.tubes.rowNamed(name) != NONE || palette.mixes.rowNamed(name) != NONE;
            return !taken || tokens.fail(3);
        }

        /** Takes a name that was checked, and '='. */
        private boolean startMix(Tokens tokens) {
            told.removeAll();
            told.addRow();
            told.setName(0, tokens.name());
            tokens.advance();
            return tokens.takeSign('=');
        }

        private boolean readParts(Tokens tokens, Palette palette) {
            for (int i = 0; i <= MAX_PARTS; i++) {
                if (!readPart(tokens, palette, i)) {
                    return false;
                }
                if (!tokens.isSign('+')) {
                    return true;
                }
                tokens.advance();
            }
            return false;
        }

        private boolean readPart(Tokens tokens, Palette palette, int i) {
            if (i >= MAX_PARTS && tokens.isNumber() && tokens.value >= 1 && tokens.value <= 9) {
                return tokens.fail(3);
            }
            int parts = tokens.takeNumber(1, 9);
            if (parts == NONE) {
                return false;
            }
            if (!tokens.isWord()) {
                return tokens.fail(1);
            }
            int tube = tokens.isTooLong() ? NONE : palette.tubes.rowNamed(tokens.name());
            if (tube == NONE || palette.uses(told, 0, tube)) {
                return tokens.fail(4);
            }
            told.set(0, TUBE + i, tube);
            told.set(0, PARTS + i, parts);
            told.set(0, COUNT, i + 1);
            tokens.advance();
            return true;
        }

        boolean readBareMix(Tokens tokens, Palette palette) {
            told.removeAll();
            told.addRow();
            return readParts(tokens, palette) && tokens.takeEnd();
        }

        boolean readDefinition(Tokens tokens, Palette palette) {
            if (!checkName(tokens)) {
                return false;
            }
            int[] name = tokens.name();
            toldNumber = palette.mixes.rowNamed(name);
            if (palette.tubes.rowNamed(name) != NONE || (toldNumber == NONE && palette.mixes.isFull())) {
                return tokens.fail(3);
            }
            return startMix(tokens) && readParts(tokens, palette) && tokens.takeEnd();
        }

        /** Puts the mix of the latest definition among the named ones; answers its number. */
        int placeTold(Palette palette) {
            int mix = toldNumber == NONE ? palette.mixes.addRow() : toldNumber;
            palette.mixes.copyRow(mix, told, 0);
            return mix;
        }
    }

    /** Reads queries. What holds is a set of mixes, one bit each, so that a text is read once for all of them. */
    private static final class QueryReader {
        private static final int MAX_OPEN = 6;
        private static final int MIX = 0;
        private static final int TUBES = 1;
        private static final int ALL_PARTS = 2;
        private static final int FIRST_VALUE = 3;
        private static final int BROKEN = 6;
        private static final int STROKES = 7;
        private static final int PROPERTIES = 8;

        /** The properties of every mix. */
        private final Table figures;
        private int everyMix;

        QueryReader() {
            figures = new Table(MAX_MIXES, PROPERTIES);
        }

        void prepare(Palette palette) {
            figures.removeAll();
            everyMix = 0;
            for (int mix = 0; mix < palette.mixes.rows; mix++) {
                everyMix |= 1 << mix;
                figures.addRow();
                figures.set(mix, MIX, mix);
                figures.set(mix, TUBES, palette.mixes.get(mix, COUNT));
                figures.set(mix, ALL_PARTS, palette.partsOf(mix));
                for (int which = 0; which < 3; which++) {
                    figures.set(mix, FIRST_VALUE + which, palette.valueOf(palette.mixes, mix, which));
                }
                figures.set(mix, BROKEN, palette.isBroken(mix) ? 1 : 0);
                figures.set(mix, STROKES, palette.strokesLeft(mix));
            }
        }

        int answerOf(Tokens tokens) {
            boolean many = tokens.isWord("many");
            if (!many && !tokens.isWord("first")) {
                tokens.fail(1);
                return NONE;
            }
            tokens.advance();
            int holding = test(tokens, 0);
            tokens.takeEnd();
            return many ? Integer.bitCount(holding) : smallestOf(holding);
        }

        private int smallestOf(int holding) {
            for (int mix = 0; mix < MAX_MIXES; mix++) {
                if ((holding >> mix & 1) != 0) {
                    return mix;
                }
            }
            return NONE;
        }

        private int test(Tokens tokens, int open) {
            int any = 0;
            int all = everyMix;
            for (int i = 0; i < MAX_SHORT_TEXT && !tokens.failed(); i++) {
                all &= factor(tokens, open);
                if (tokens.isWord("and")) {
                    tokens.advance();
                    continue;
                }
                any |= all;
                if (!tokens.isWord("or")) {
                    return any;
                }
                all = everyMix;
                tokens.advance();
            }
            return any;
        }

        private int factor(Tokens tokens, int open) {
            boolean not = tokens.isWord("not");
            if (!not && !tokens.isSign('(')) {
                return comparison(tokens);
            }
            if (open >= MAX_OPEN) {
                tokens.fail(3);
                return 0;
            }
            tokens.advance();
            if (not) {
                return everyMix & ~factor(tokens, open + 1);
            }
            int holding = test(tokens, open + 1);
            tokens.takeSign(')');
            return holding;
        }

        private int comparison(Tokens tokens) {
            int left = operand(tokens);
            if (tokens.failed()) {
                return 0;
            }
            boolean less = tokens.isSign('<');
            boolean greater = tokens.isSign('>');
            if (!less && !greater && !tokens.isSign('=')) {
                tokens.fail(1);
                return 0;
            }
            tokens.advance();
            int right = operand(tokens);
            int holding = 0;
            for (int mix = 0; mix < figures.rows; mix++) {
                int order = Integer.compare(numberOf(left, mix), numberOf(right, mix));
                if (less ? order < 0 : greater ? order > 0 : order == 0) {
                    holding |= 1 << mix;
                }
            }
            return holding;
        }

        private int numberOf(int operand, int mix) {
            return operand >= 0 ? operand : figures.get(mix, -1 - operand);
        }

        /** A number itself, or a property as -1 minus its number. */
        private int operand(Tokens tokens) {
            if (tokens.isNumber()) {
                int number = tokens.value;
                if (number > 9999) {
                    tokens.fail(2);
                    return 0;
                }
                tokens.advance();
                return number;
            }
            int property = NONE;
            if (tokens.isWord("mix")) {
                property = MIX;
            } else if (tokens.isWord("tubes")) {
                property = TUBES;
            } else if (tokens.isWord("parts")) {
                property = ALL_PARTS;
            } else if (tokens.isWord("red")) {
                property = FIRST_VALUE;
            } else if (tokens.isWord("green")) {
                property = FIRST_VALUE + 1;
            } else if (tokens.isWord("blue")) {
                property = FIRST_VALUE + 2;
            } else if (tokens.isWord("broken")) {
                property = BROKEN;
            } else if (tokens.isWord("strokes")) {
                property = STROKES;
            }
            if (property == NONE) {
                tokens.fail(1);
                return 0;
            }
            tokens.advance();
            return -1 - property;
        }
    }
}
