import java.util.ArrayDeque;
import java.util.ArrayList;
import java.util.Deque;
import java.util.HashSet;
import java.util.List;
import java.util.Random;
import java.util.Set;

/**
 * The first error of every short text: all rows of tokens behind some beginnings, against machines that take one token
 * after the other and know no recursion, so that they share no reading with the program's readers.
 */
public final class GrammarTest {
    private static final String PALETTE = "palette most 3;tube a 10 20 30;tube b 200 100 0 5;tube abcdefgh 1 2 3;"
        + "mix m=1a+2b;mix n=3a;mix palette=1b;";
    private static final int MOST_CALLS = 440;

    private static final String[] OF_LOAD = {"palette", "brushes", "most", "tolerance", "tube", "mix", "a", "m", "abcdefgh",
        "abcdefghi", "0", "1", "09", "10", "255", "256", "10000", "100000", ";", "=", "+", "("};
    private static final String[] LOAD_BEGINNINGS = {"", "palette", "palette brushes 3", "palette most 6", "palette tolerance 99999",
        "palette brushes 1 most 1 tolerance 0", "palette ;", "palette ; tube", "palette ; tube a", "palette ; tube a 1 2",
        "palette ; tube a 1 2 3", "palette ; tube a 1 2 3 4 ;", "palette ; tube tube 1 2 3 ; mix", "palette ; tube a 1 2 3 ; mix m",
        "palette ; tube a 1 2 3 ; mix m =", "palette ; tube a 1 2 3 ; tube abcdefgh 4 5 6 ; mix m = 1 a +",
        "palette ; tube a 0 0 0 ; mix m = 1 a ; mix"};
    private static final String[] OF_PARTS = {"0", "1", "09", "10", "a", "b", "abcdefgh", "abcdefghi", "m", "c", "+", "=", ";", "!"};
    private static final String[] PART_BEGINNINGS = {"", "1 a", "1 a + 2", "1 a + 2 b +", "9 abcdefgh + 9 a + 9 b"};
    private static final String[] OF_QUERY = {"many", "first", "not", "(", ")", "mix", "strokes", "1", "9999", "10000", "<", "=", ">",
        "and", "or", ";", "none"};
    private static final String[] QUERY_BEGINNINGS = {"", "many", "first", "many not", "many 1 <", "first mix = 0", "many ( 1 = 1",
        "many not not not not not", "first ( ( ( not ( (", "many ( ( ( ( ( ( 1 = 1", "many not not not not not not 1 > 2 or",
        "first ( ( ( not not not 1 = 1 and"};

    private final Random random = new Random(31);
    private PaletteTubes x;
    private int made = MOST_CALLS;

    /** Takes the tokens of a text one by one, "" at its end; answers an error code, or 0. */
    private abstract static class Machine {
        abstract int take(String token);

        static boolean isNumber(String token) {
            return !token.isEmpty() && Character.isDigit(token.charAt(0));
        }

        static boolean isWord(String token) {
            return !token.isEmpty() && Character.isLetter(token.charAt(0));
        }
    }

    /** What a mixed text may say next. */
    private static class PartsMachine extends Machine {
        final Set<String> tubes = new HashSet<>();
        private final Set<String> told = new HashSet<>();
        private int parts;
        /** What is due: a number, a tube, or what stands behind a part. */
        private char due = 'n';

        PartsMachine(List<String> tubes) {
            this.tubes.addAll(tubes);
        }

        void start() {
            told.clear();
            parts = 0;
            due = 'n';
        }

        boolean mayEnd() {
            return due == '+';
        }

        @Override
        int take(String token) {
            if (due == 'n') {
                due = 't';
                int number = isNumber(token) ? Integer.parseInt(token) : 0;
                return !isNumber(token) ? 1 : number < 1 || number > 9 ? 2 : parts++ == 4 ? 3 : 0;
            }
            if (due == 't') {
                due = '+';
                return !isWord(token) ? 1 : !tubes.contains(token) || !told.add(token) ? 4 : 0;
            }
            due = 'n';
            return token.equals("+") || token.isEmpty() ? 0 : 1;
        }
    }

    /** What a definition may say next. */
    private static final class DefinitionMachine extends Machine {
        private final PartsMachine parts;
        private final boolean full;
        private final List<String> mixes;
        private int place;

        DefinitionMachine(List<String> tubes, List<String> mixes, boolean full) {
            parts = new PartsMachine(tubes);
            this.mixes = mixes;
            this.full = full;
        }

        @Override
        int take(String token) {
            place++;
            if (place == 1) {
                boolean taken = parts.tubes.contains(token) || full && !mixes.contains(token);
                return !isWord(token) ? 1 : token.length() > 8 ? 2 : taken ? 3 : 0;
            }
            return place == 2 ? token.equals("=") ? 0 : 1 : parts.take(token);
        }
    }

    /** What a palette's text may say next. */
    private static final class PaletteMachine extends Machine {
        private final PartsMachine parts = new PartsMachine(List.of());
        private final List<String> mixes = new ArrayList<>();
        /** The settings that may still be told, in their order. */
        private final List<String> settings = new ArrayList<>(List.of("brushes", "most", "tolerance"));
        private String state = "palette";
        private String clause = "";

        @Override
        int take(String token) {
            switch (state) {
                case "palette": return literal(token, "palette", "setting");
                case "setting": return setting(token);
                case "brushes": case "most": return number(token, 1, 6, "setting");
                case "tolerance": return number(token, 0, 99999, "setting");
                case "clause": return keyword(token);
                case "name": return name(token);
                case "red": return number(token, 0, 255, "green");
                case "green": return number(token, 0, 255, "blue");
                case "blue": return number(token, 0, 255, "drops");
                case "drops": return isNumber(token) ? number(token, 0, 9999, ";") : literal(token, ";", "clause");
                case ";": return literal(token, ";", "clause");
                case "=": parts.start(); return literal(token, "=", "parts");
                default: return parts.mayEnd() && !token.equals("+") ? literal(token, ";", "clause") : parts.take(token);
            }
        }

        private int literal(String token, String due, String next) {
            state = next;
            return token.equals(due) ? 0 : 1;
        }

        private int setting(String token) {
            if (!settings.contains(token)) {
                return literal(token, ";", "clause");
            }
            settings.subList(0, settings.indexOf(token) + 1).clear();
            state = token;
            return 0;
        }

        private int number(String token, int least, int most, String next) {
            state = next;
            return !isNumber(token) ? 1 : Integer.parseInt(token) < least || Integer.parseInt(token) > most ? 2 : 0;
        }

        private int keyword(String token) {
            state = "name";
            clause = token;
            switch (token) {
                case "": return 0;
                case "tube": return parts.tubes.size() == 20 ? 3 : 0;
                case "mix": return mixes.size() == 20 ? 3 : 0;
                default: return 1;
            }
        }

        private int name(String token) {
            boolean taken = parts.tubes.contains(token) || mixes.contains(token);
            if (!isWord(token) || token.length() > 8 || taken) {
                return !isWord(token) ? 1 : token.length() > 8 ? 2 : 3;
            }
            (clause.equals("tube") ? parts.tubes : mixes).add(token);
            state = clause.equals("tube") ? "red" : "=";
            return 0;
        }
    }

    /** What a query may say next. */
    private static final class QueryMachine extends Machine {
        private final Deque<String> open = new ArrayDeque<>();
        private String state = "kind";

        @Override
        int take(String token) {
            switch (state) {
                case "kind": return state("factor", Set.of("many", "first").contains(token) ? 0 : 1);
                case "factor": return Set.of("not", "(").contains(token) ? opened(token) : state("sign", value(token));
                case "sign": return state("right", Set.of("<", "=", ">").contains(token) ? 0 : 1);
                case "right": closeNots(); return state("behind", value(token));
                default: return behind(token);
            }
        }

        private int state(String next, int code) {
            state = next;
            return code;
        }

        private static int value(String token) {
            if (isNumber(token)) {
                return Integer.parseInt(token) > 9999 ? 2 : 0;
            }
            return Set.of("mix", "tubes", "parts", "red", "green", "blue", "broken", "strokes").contains(token) ? 0 : 1;
        }

        private int opened(String token) {
            open.push(token);
            return open.size() > 6 ? 3 : 0;
        }

        private void closeNots() {
            while ("not".equals(open.peek())) {
                open.pop();
            }
        }

        private int behind(String token) {
            if (Set.of("and", "or").contains(token)) {
                return state("factor", 0);
            }
            if (open.isEmpty() || !token.equals(")")) {
                return token.isEmpty() && open.isEmpty() ? 0 : 1;
            }
            open.pop();
            closeNots();
            return 0;
        }
    }

    private interface Texts {
        void are(List<String> tokens);
    }

    private static void behind(List<String> tokens, String[] words, int more, Texts texts) {
        texts.are(tokens);
        for (int i = 0; i < words.length && more > 0; i++) {
            tokens.add(words[i]);
            behind(tokens, words, more - 1, texts);
            tokens.remove(tokens.size() - 1);
        }
    }

    private static void behindAll(String[] beginnings, String[] words, int more, Texts texts) {
        for (String beginning : beginnings) {
            List<String> tokens = new ArrayList<>(beginning.isEmpty() ? List.of() : List.of(beginning.split(" ")));
            behind(tokens, words, more, texts);
        }
    }

    private String blanks(int most) {
        return " \n ".substring(0, random.nextInt(most + 1));
    }

    /** Joins tokens with as few blanks as they need, or some more; tells where each stands. */
    private String joined(List<String> tokens, List<Integer> places) {
        StringBuilder text = new StringBuilder(blanks(1));
        for (int i = 0; i < tokens.size(); i++) {
            String token = tokens.get(i);
            boolean words = i > 0 && Machine.isWord(token) && Machine.isWord(tokens.get(i - 1));
            boolean numbers = i > 0 && Machine.isNumber(token) && Machine.isNumber(tokens.get(i - 1));
            text.append(words || numbers ? " " : blanks(2));
            places.add(text.length());
            text.append(token);
        }
        text.append(blanks(3));
        places.add(text.length());
        return text.toString();
    }

    /** The error that a machine finds, as "code at position"; "0 at -1" if there is none. */
    private static String error(Machine machine, List<String> tokens, List<Integer> places) {
        for (int i = 0; i <= tokens.size(); i++) {
            int code = machine.take(i < tokens.size() ? tokens.get(i) : "");
            if (code != 0) {
                return code + " at " + places.get(i);
            }
        }
        return "0 at -1";
    }

    private static PaletteTubes twentyMixes() {
        StringBuilder text = new StringBuilder("palette;tube a 1 2 3;tube b 1 2 3;tube abcdefgh 1 2 3;mix m=1a;");
        for (int i = 1; i < 20; i++) {
            text.append("mix z").append((char) ('a' + i)).append("=1a;");
        }
        return Check.loaded(text.toString());
    }

    private void ready(String text, boolean full) {
        made += text.length() / 20 + 4;
        if (made > MOST_CALLS) {
            x = full ? twentyMixes() : Check.loaded(PALETTE);
            made = 60;
        }
    }

    private void compare(char call, Machine machine, List<String> tokens, boolean full) {
        List<Integer> places = new ArrayList<>();
        String text = joined(tokens, places);
        ready(text, full);
        int length = Check.feed(x, text);
        int answer = call == 'l' ? x.load(length) : call == 'm' ? x.mixed(length) : call == 'd' ? x.define(length) : x.query(length);
        int none = call == 'q' ? PaletteTubes.HIDDEN : -10;
        boolean failed = call == 'q' ? answer < -1 : answer < 0;
        if (call == 'd' && !failed) {
            x.undo();
        }
        Check.due(call + " [" + text + "]", (failed ? none - answer : 0) + " at " + x.errorPosition(), error(machine, tokens, places));
    }

    /** Texts that end where the 21st tube or mix would begin, and behind it. */
    private void fullPalettes() {
        StringBuilder tubes = new StringBuilder("palette ;");
        StringBuilder mixes = new StringBuilder("palette ; tube a 0 0 0 ;");
        for (int i = 0; i < 20; i++) {
            tubes.append(" tube t").append((char) ('a' + i)).append(" 1 2 3 ;");
            mixes.append(" mix m").append((char) ('a' + i)).append(" = 1 a ;");
        }
        String[] full = {tubes.toString(), mixes.toString(), mixes.toString().replace(" mix mt = 1 a ;", ""),
            tubes.toString().replace(" tube tt 1 2 3 ;", "")};
        behindAll(full, OF_LOAD, 2, tokens -> compare('l', new PaletteMachine(), tokens, false));
    }

    private void run() {
        List<String> tubes = List.of("a", "b", "abcdefgh");
        behindAll(QUERY_BEGINNINGS, OF_QUERY, 3, tokens -> compare('q', new QueryMachine(), tokens, false));
        behindAll(PART_BEGINNINGS, OF_PARTS, 4, tokens -> compare('m', new PartsMachine(tubes), tokens, false));
        for (int i = 0; i < 2; i++) {
            boolean full = i == 1;
            List<String> mixes = full ? List.of("m") : List.of("m", "n", "palette");
            made = MOST_CALLS;
            behindAll(new String[] {"", "m =", "q =", "abcdefghi =", "m = 1 a + 2 b"}, OF_PARTS, 3,
                tokens -> compare('d', new DefinitionMachine(tubes, mixes, full), tokens, full));
        }
        fourParts();
        behindAll(LOAD_BEGINNINGS, OF_LOAD, 3, tokens -> compare('l', new PaletteMachine(), tokens, false));
        fullPalettes();
    }

    /** A fifth part needs a palette of more tubes. */
    private void fourParts() {
        String four = "palette ; tube a 1 2 3 ; tube b 1 2 3 ; tube c 1 2 3 ; tube d 1 2 3 ; tube e 1 2 3 ; mix m = 1 a + 2 b + 3 c + 4 d";
        behindAll(new String[] {four}, new String[] {"+", "1", "0", "10", "e", "a", ";", "mix"}, 4,
            tokens -> compare('l', new PaletteMachine(), tokens, false));
    }

    public static void main(String[] args) {
        new GrammarTest().run();
        Check.end("GrammarTest");
    }
}
