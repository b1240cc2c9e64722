import java.util.ArrayDeque;
import java.util.ArrayList;
import java.util.Arrays;
import java.util.Comparator;
import java.util.Deque;
import java.util.List;
import java.util.NoSuchElementException;
import java.util.function.IntPredicate;

/** The document once more, in the plainest words and with the whole Java library: what ModelTest compares with. */
final class PlainPalette {
    record Tube(String name, int[] rgb, int drops, boolean retired) {
        Tube withDrops(int left) {
            return new Tube(name, rgb, left, retired);
        }
    }

    record Part(int parts, int tube) {
    }

    record Mix(String name, List<Part> list) {
    }

    record Brush(int[] rest, int dirt) {
    }

    record Painting(int colour, int brush, int strokes, int mixColour) {
    }

    record State(List<Tube> tubes, List<Mix> mixes, List<Brush> brushes, List<Painting> paintings,
            int most, int tolerance, int turbidity) {
        State copy() {
            return new State(new ArrayList<>(tubes), new ArrayList<>(mixes), new ArrayList<>(brushes),
                new ArrayList<>(paintings), most, tolerance, turbidity);
        }

        State with(int newMost, int newTolerance, int newTurbidity) {
            return new State(tubes, mixes, brushes, paintings, newMost, newTolerance, newTurbidity);
        }
    }

    record Token(char kind, String text, int at) {
    }

    static final class Wrong extends RuntimeException {
        private static final long serialVersionUID = 1;
        final int code;
        final int at;

        Wrong(int code, Token token) {
            this.code = code;
            this.at = token.at();
        }
    }

    State s = empty(2, 4, 300);
    private final Deque<State> past = new ArrayDeque<>();
    private State snapshot;
    private String buffer = "";
    private String formatted = "";
    private int errorPosition = -1;
    private List<Token> tokens;
    private int place;
    private int open;

    private static State empty(int brushes, int most, int tolerance) {
        State s = new State(new ArrayList<>(), new ArrayList<>(), new ArrayList<>(), new ArrayList<>(), most, tolerance, 0);
        for (int i = 0; i < brushes; i++) {
            s.brushes.add(new Brush(new int[3], 0));
        }
        return s;
    }

    // ---- texts

    int feed(int... words) {
        if (buffer.length() + 20 > 900) {
            return -1;
        }
        StringBuilder more = new StringBuilder(buffer);
        for (int word : words) {
            for (int i = 3; i >= 0; i--) {
                more.append((char) (word >>> 8 * i & 255));
            }
        }
        buffer = more.toString();
        return buffer.length();
    }

    private static boolean in(int value, int least, int most) {
        return least <= value && value <= most;
    }

    private static void argument(boolean right) {
        if (!right) {
            throw new IllegalArgumentException();
        }
    }

    private static void exists(boolean right) {
        if (!right) {
            throw new NoSuchElementException();
        }
    }

    private void open(int length, int most) {
        argument(in(length, 0, Math.min(most, buffer.length())));
        String text = buffer.substring(0, length);
        buffer = "";
        errorPosition = -1;
        tokens = new ArrayList<>();
        place = 0;
        open = 0;
        java.util.regex.Matcher m = java.util.regex.Pattern.compile("[a-z]+|[0-9]+|[^ \n]", java.util.regex.Pattern.DOTALL)
            .matcher(text);
        while (m.find()) {
            char first = m.group().charAt(0);
            tokens.add(new Token(in(first, 'a', 'z') ? 'w' : in(first, '0', '9') ? 'n' : 's', m.group(), m.start()));
        }
        tokens.add(new Token('e', "", length));
    }

    private Token now() {
        return tokens.get(place);
    }

    private boolean sees(String text) {
        return now().text().equals(text);
    }

    private boolean takes(String text) {
        if (sees(text)) {
            place++;
            return true;
        }
        return false;
    }

    private void must(String text) {
        if (!takes(text)) {
            throw new Wrong(1, now());
        }
    }

    private int number(int least, int most, boolean tooMany) {
        Token t = now();
        if (t.kind() != 'n') {
            throw new Wrong(1, t);
        }
        java.math.BigInteger value = new java.math.BigInteger(t.text());
        if (value.bitLength() > 30 || !in(value.intValue(), least, most)) {
            throw new Wrong(2, t);
        }
        if (tooMany) {
            throw new Wrong(3, t);
        }
        place++;
        return value.intValue();
    }

    private static int tubeNamed(State in, String name) {
        return in.tubes.stream().map(Tube::name).toList().indexOf(name);
    }

    private static int mixNamed(State in, String name) {
        return in.mixes.stream().map(Mix::name).toList().indexOf(name);
    }

    private String newName(State in, boolean definition) {
        Token t = now();
        if (t.kind() != 'w') {
            throw new Wrong(1, t);
        }
        if (t.text().length() > 8) {
            throw new Wrong(2, t);
        }
        int mix = mixNamed(in, t.text());
        boolean taken = tubeNamed(in, t.text()) >= 0 || (definition ? mix < 0 && in.mixes.size() == 20 : mix >= 0);
        if (taken) {
            throw new Wrong(3, t);
        }
        place++;
        return t.text();
    }

    private List<Part> parts(State in) {
        List<Part> list = new ArrayList<>();
        do {
            int parts = number(1, 9, list.size() == 4);
            Token t = now();
            if (t.kind() != 'w') {
                throw new Wrong(1, t);
            }
            int tube = tubeNamed(in, t.text());
            if (tube < 0 || list.stream().anyMatch(p -> p.tube == tube)) {
                throw new Wrong(4, t);
            }
            place++;
            list.add(new Part(parts, tube));
        } while (takes("+"));
        return list;
    }

    private void atEnd() {
        if (now().kind() != 'e') {
            throw new Wrong(1, now());
        }
    }

    int load(int length) {
        open(length, 900);
        try {
            must("palette");
            int brushes = takes("brushes") ? number(1, 6, false) : 2;
            int most = takes("most") ? number(1, 6, false) : 4;
            int tolerance = takes("tolerance") ? number(0, 99999, false) : 300;
            must(";");
            State told = empty(brushes, most, tolerance);
            while (now().kind() != 'e') {
                boolean tube = sees("tube");
                if (!tube && !sees("mix")) {
                    throw new Wrong(1, now());
                }
                if ((tube ? told.tubes.size() : told.mixes.size()) == 20) {
                    throw new Wrong(3, now());
                }
                place++;
                String name = newName(told, false);
                if (tube) {
                    int[] rgb = {number(0, 255, false), number(0, 255, false), number(0, 255, false)};
                    told.tubes.add(new Tube(name, rgb, now().kind() == 'n' ? number(0, 9999, false) : 100, false));
                } else {
                    must("=");
                    told.mixes.add(new Mix(name, parts(told)));
                }
                must(";");
            }
            s = told;
            past.clear();
            snapshot = null;
            return s.tubes.size();
        } catch (Wrong e) {
            errorPosition = e.at;
            return -10 - e.code;
        }
    }

    int errorPosition() {
        return errorPosition;
    }

    int mixed(int length) {
        open(length, 200);
        try {
            List<Part> list = parts(s);
            atEnd();
            return one(rgb(list));
        } catch (Wrong e) {
            errorPosition = e.at;
            return -10 - e.code;
        }
    }

    int define(int length) {
        open(length, 200);
        try {
            String name = newName(s, true);
            must("=");
            Mix mix = new Mix(name, parts(s));
            atEnd();
            record();
            int number = mixNamed(s, name);
            if (number < 0) {
                s.mixes.add(mix);
                return s.mixes.size() - 1;
            }
            s.mixes.set(number, mix);
            return number;
        } catch (Wrong e) {
            errorPosition = e.at;
            return -10 - e.code;
        }
    }

    int query(int length) {
        open(length, 200);
        try {
            boolean many = sees("many");
            if (!many && !sees("first")) {
                throw new Wrong(1, now());
            }
            place++;
            IntPredicate test = test();
            atEnd();
            int[] holding = java.util.stream.IntStream.range(0, s.mixes.size()).filter(test).toArray();
            return many ? holding.length : holding.length == 0 ? -1 : holding[0];
        } catch (Wrong e) {
            errorPosition = e.at;
            return -1000000000 - e.code;
        }
    }

    private IntPredicate test() {
        IntPredicate any = conjunction();
        while (takes("or")) {
            any = any.or(conjunction());
        }
        return any;
    }

    private IntPredicate conjunction() {
        IntPredicate all = factor();
        while (takes("and")) {
            all = all.and(factor());
        }
        return all;
    }

    private IntPredicate factor() {
        boolean not = sees("not");
        if (not || sees("(")) {
            if (open == 6) {
                throw new Wrong(3, now());
            }
            open++;
            place++;
            IntPredicate inner = not ? factor().negate() : test();
            if (!not) {
                must(")");
            }
            open--;
            return inner;
        }
        java.util.function.IntUnaryOperator left = value();
        String sign = now().text();
        if (!List.of("<", "=", ">").contains(sign)) {
            throw new Wrong(1, now());
        }
        place++;
        java.util.function.IntUnaryOperator right = value();
        int want = sign.equals("<") ? -1 : sign.equals("=") ? 0 : 1;
        return mix -> Integer.signum(left.applyAsInt(mix) - right.applyAsInt(mix)) == want;
    }

    private java.util.function.IntUnaryOperator value() {
        if (now().kind() == 'n') {
            int number = number(0, 9999, false);
            return mix -> number;
        }
        int property = List.of("red", "green", "blue", "tubes", "parts", "broken", "mix", "strokes").indexOf(now().text());
        if (property < 0) {
            throw new Wrong(1, now());
        }
        place++;
        return mix -> property == 6 ? mix : property == 7 ? strokes(mix) : mix(mix, property);
    }

    // ---- colours

    private static int one(int[] rgb) {
        return rgb[0] << 16 | rgb[1] << 8 | rgb[2];
    }

    private static int[] three(int colour) {
        return new int[] {colour >> 16, colour >> 8 & 255, colour & 255};
    }

    private static int round(int sum, int by) {
        int down = sum / by;
        return 2 * (sum - down * by) >= by ? down + 1 : down;
    }

    private int[] rgb(List<Part> list) {
        int all = list.stream().mapToInt(Part::parts).sum();
        int[] rgb = new int[3];
        for (int i = 0; i < 3; i++) {
            int which = i;
            rgb[i] = round(list.stream().mapToInt(p -> p.parts * s.tubes.get(p.tube).rgb[which]).sum(), all);
        }
        return rgb;
    }

    private int[] rgb(int mix) {
        return rgb(s.mixes.get(mix).list);
    }

    private static int far(int colour, int other) {
        int[] a = three(colour);
        int[] b = three(other);
        int sum = 0;
        for (int i = 0; i < 3; i++) {
            sum += new int[] {2, 4, 3}[i] * (a[i] - b[i]) * (a[i] - b[i]);
        }
        return sum;
    }

    private record Small(List<Part> list, int far) {
        int all() {
            return list.stream().mapToInt(Part::parts).sum();
        }

        int[] tubes() {
            return list.stream().mapToInt(Part::tube).toArray();
        }

        int[] parts() {
            return list.stream().mapToInt(Part::parts).toArray();
        }
    }

    private void collect(int k, int from, int left, List<Part> list, int colour, List<Small> all) {
        if (!list.isEmpty()) {
            all.add(new Small(new ArrayList<>(list), far(one(rgb(list)), colour)));
        }
        if (list.size() == k) {
            return;
        }
        for (int tube = from; tube < s.tubes.size(); tube++) {
            for (int parts = 1; parts <= left && !s.tubes.get(tube).retired; parts++) {
                list.add(new Part(parts, tube));
                collect(k, tube + 1, left - parts, list, colour, all);
                list.remove(list.size() - 1);
            }
        }
    }

    private Small nearestMix(int colour, int k) {
        List<Small> all = new ArrayList<>();
        collect(k, 0, s.most, new ArrayList<>(), colour, all);
        Comparator<Small> ahead = Comparator.<Small>comparingInt(Small::far).thenComparingInt(m -> m.list.size())
            .thenComparingInt(Small::all).thenComparing(Small::tubes, Arrays::compare).thenComparing(Small::parts, Arrays::compare);
        return all.stream().min(ahead).orElse(null);
    }

    // ---- what is asked

    private void tubeExists(int tube) {
        exists(in(tube, 0, s.tubes.size() - 1));
    }

    private void mixExists(int mix) {
        exists(in(mix, 0, s.mixes.size() - 1));
    }

    private void brushExists(int brush) {
        exists(in(brush, 0, s.brushes.size() - 1));
    }

    private boolean broken(int mix) {
        return s.mixes.get(mix).list.stream().anyMatch(p -> s.tubes.get(p.tube).retired);
    }

    private int brokenMixes() {
        int count = 0;
        for (int mix = 0; mix < s.mixes.size(); mix++) {
            count += broken(mix) ? 1 : 0;
        }
        return count;
    }

    int size(int what) {
        exists(in(what, 0, 9));
        int inUse = (int) s.tubes.stream().filter(t -> !t.retired).count();
        int drops = s.tubes.stream().mapToInt(Tube::drops).sum();
        return new int[] {s.tubes.size(), inUse, s.mixes.size(), brokenMixes(), s.brushes.size(), s.most, s.tolerance,
            s.turbidity, s.paintings.size(), drops}[what];
    }

    private int users(int tube) {
        return (int) s.mixes.stream().filter(m -> m.list.stream().anyMatch(p -> p.tube == tube)).count();
    }

    int tube(int tube, int what) {
        tubeExists(tube);
        exists(in(what, 0, 5));
        Tube t = s.tubes.get(tube);
        return new int[] {t.rgb[0], t.rgb[1], t.rgb[2], t.drops, t.retired ? 0 : 1, users(tube)}[what];
    }

    int mix(int mix, int what) {
        mixExists(mix);
        exists(in(what, 0, 5));
        int[] rgb = rgb(mix);
        List<Part> list = s.mixes.get(mix).list;
        return new int[] {rgb[0], rgb[1], rgb[2], list.size(), list.stream().mapToInt(Part::parts).sum(), broken(mix) ? 1 : 0}[what];
    }

    int partOf(int mix, int i, boolean ofParts) {
        mixExists(mix);
        exists(in(i, 0, s.mixes.get(mix).list.size() - 1));
        Part part = s.mixes.get(mix).list.get(i);
        return ofParts ? part.parts : part.tube;
    }

    int letter(boolean ofMix, int number, int index) {
        exists(in(number, 0, (ofMix ? s.mixes.size() : s.tubes.size()) - 1));
        String name = ofMix ? s.mixes.get(number).name : s.tubes.get(number).name;
        return in(index, 0, name.length() - 1) ? name.charAt(index) : -1;
    }

    private static void colour(int colour) {
        argument(in(colour, 0, 0xffffff));
    }

    int apart(int colour, int other) {
        colour(colour);
        colour(other);
        return far(colour, other);
    }

    int called(int colour) {
        colour(colour);
        int best = -1;
        for (int mix = s.mixes.size() - 1; mix >= 0; mix--) {
            if (best < 0 || far(one(rgb(mix)), colour) <= far(one(rgb(best)), colour)) {
                best = mix;
            }
        }
        return best;
    }

    int nearest(int colour, int k, int what) {
        exists(in(what, 0, 9));
        colour(colour);
        argument(in(k, 1, 3));
        Small best = nearestMix(colour, k);
        if (best == null) {
            return -1;
        }
        if (what < 4) {
            return new int[] {one(rgb(best.list)), best.list.size(), best.all(), best.far}[what];
        }
        int[] row = what < 7 ? best.tubes() : best.parts();
        int i = (what - 4) % 3;
        return i < row.length ? row[i] : -1;
    }

    int fewest(int colour) {
        colour(colour);
        for (int k = 1; k <= 3; k++) {
            Small best = nearestMix(colour, k);
            if (best != null && best.far <= s.tolerance) {
                return k;
            }
        }
        return -1;
    }

    private int strokesOf(Part part) {
        return s.tubes.get(part.tube).drops / part.parts;
    }

    int strokes(int mix) {
        mixExists(mix);
        return s.mixes.get(mix).list.stream().mapToInt(this::strokesOf).min().getAsInt();
    }

    int shortest(int mix) {
        mixExists(mix);
        return s.mixes.get(mix).list.stream().min(Comparator.comparingInt(this::strokesOf).thenComparingInt(Part::tube)).get().tube;
    }

    int wouldPaint(int brush, int mix) {
        brushExists(brush);
        mixExists(mix);
        int[] own = rgb(mix);
        Brush b = s.brushes.get(brush);
        int[] painted = new int[3];
        for (int i = 0; i < 3; i++) {
            painted[i] = round(4 * own[i] + b.dirt * b.rest[i], 4 + b.dirt);
        }
        return one(painted);
    }

    int brush(int brush, int what) {
        brushExists(brush);
        exists(in(what, 0, 3));
        Brush b = s.brushes.get(brush);
        return what == 3 ? b.dirt : b.rest[what];
    }

    int bestBrush(int mix) {
        mixExists(mix);
        return java.util.stream.IntStream.range(0, s.brushes.size()).boxed()
            .min(Comparator.comparingInt(b -> far(wouldPaint(b, mix), one(rgb(mix))))).get();
    }

    int painting(int index, int what) {
        exists(in(index, 0, s.paintings.size() - 1) && in(what, 0, 3));
        Painting p = s.paintings.get(index);
        return new int[] {p.colour, p.brush, p.strokes, p.mixColour}[what];
    }

    int spare() {
        return java.util.stream.IntStream.range(0, s.tubes.size()).filter(t -> !s.tubes.get(t).retired).boxed()
            .min(Comparator.comparingInt(this::users)).orElse(-1);
    }

    private int[] pairs() {
        return java.util.stream.IntStream.range(0, 2000).filter(p -> p / 100 < p % 100 && p % 100 < s.mixes.size()).toArray();
    }

    private int pairFar(int pair) {
        return far(one(rgb(pair / 100)), one(rgb(pair % 100)));
    }

    int closest() {
        return Arrays.stream(pairs()).boxed().min(Comparator.comparingInt(this::pairFar)).orElse(-1);
    }

    int twins() {
        return (int) Arrays.stream(pairs()).filter(p -> pairFar(p) == 0).count();
    }

    int loss(int mix) {
        mixExists(mix);
        return nearest(one(rgb(mix)), 3, 3);
    }

    double meanDrops() {
        int count = size(1);
        int drops = s.tubes.stream().filter(t -> !t.retired).mapToInt(Tube::drops).sum();
        return count == 0 ? 0 : (double) drops / (double) count;
    }

    float brokenShare() {
        return s.mixes.isEmpty() ? 0 : (float) brokenMixes() / (float) s.mixes.size();
    }

    // ---- operations

    private void record() {
        past.push(s.copy());
        if (past.size() > 10) {
            past.removeLast();
        }
    }

    int forget(int mix) {
        mixExists(mix);
        record();
        s.mixes.remove(mix);
        return s.mixes.size();
    }

    int retire(int tube, boolean retired) {
        tubeExists(tube);
        record();
        Tube t = s.tubes.get(tube);
        s.tubes.set(tube, new Tube(t.name, t.rgb, t.drops, retired));
        return brokenMixes();
    }

    int heal(int mix) {
        mixExists(mix);
        if (!broken(mix)) {
            return -2;
        }
        Small best = nearestMix(one(rgb(mix)), 3);
        if (best == null) {
            return -3;
        }
        if (best.far > s.tolerance) {
            return -4;
        }
        record();
        s.mixes.set(mix, new Mix(s.mixes.get(mix).name, best.list));
        return best.far;
    }

    int paint(int brush, int mix, int strokes) {
        brushExists(brush);
        mixExists(mix);
        argument(in(strokes, 1, 99));
        if (broken(mix)) {
            return -2;
        }
        List<Part> list = s.mixes.get(mix).list;
        if (list.stream().anyMatch(p -> s.tubes.get(p.tube).drops < strokes * p.parts)) {
            return -3;
        }
        record();
        int colour = wouldPaint(brush, mix);
        s.paintings.add(0, new Painting(colour, brush, strokes, one(rgb(mix))));
        if (s.paintings.size() > 12) {
            s.paintings.remove(12);
        }
        s.brushes.set(brush, new Brush(three(colour), Math.min(3, s.brushes.get(brush).dirt + 1)));
        for (Part p : list) {
            s.tubes.set(p.tube, s.tubes.get(p.tube).withDrops(s.tubes.get(p.tube).drops - strokes * p.parts));
        }
        return colour;
    }

    int clean(int brush) {
        brushExists(brush);
        record();
        Brush b = s.brushes.get(brush);
        s.brushes.set(brush, new Brush(b.rest, s.turbidity < 5 || b.dirt == 0 ? 0 : 1));
        s = s.with(s.most, s.tolerance, Math.min(9, s.turbidity + b.dirt));
        return s.turbidity;
    }

    int change() {
        record();
        int before = s.turbidity;
        s = s.with(s.most, s.tolerance, 0);
        return before;
    }

    int refill(int tube, int drops) {
        tubeExists(tube);
        argument(in(drops, 1, 999));
        int left = s.tubes.get(tube).drops + drops;
        if (left > 9999) {
            return -2;
        }
        record();
        s.tubes.set(tube, s.tubes.get(tube).withDrops(left));
        return left;
    }

    int setMost(int most) {
        argument(in(most, 1, 6));
        record();
        int before = s.most;
        s = s.with(most, s.tolerance, s.turbidity);
        return before;
    }

    int setTolerance(int tolerance) {
        argument(in(tolerance, 0, 99999));
        record();
        int before = s.tolerance;
        s = s.with(s.most, tolerance, s.turbidity);
        return before;
    }

    int format(int mix) {
        mixExists(mix);
        List<String> texts = s.mixes.get(mix).list.stream().map(p -> p.parts + s.tubes.get(p.tube).name).toList();
        formatted = s.mixes.get(mix).name + "=" + String.join("+", texts) + (broken(mix) ? "!" : "");
        return formatted.length();
    }

    int formattedByte(int index) {
        return in(index, 0, formatted.length() - 1) ? formatted.charAt(index) : -1;
    }

    int undoCount() {
        return past.size();
    }

    int undo() {
        if (past.isEmpty()) {
            return -1;
        }
        s = past.pop();
        return past.size();
    }

    void saveSnapshot() {
        snapshot = s.copy();
    }

    boolean restoreSnapshot() {
        if (snapshot == null) {
            return false;
        }
        s = snapshot.copy();
        past.clear();
        return true;
    }
}
