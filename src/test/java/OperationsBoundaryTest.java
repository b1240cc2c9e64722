import java.util.ArrayDeque;
import java.util.Deque;
import java.util.function.Supplier;

/** The boundary cases of the section 'Operations': what is recorded, what is refused, what undoing and the snapshot restore. */
public final class OperationsBoundaryTest {
    /** One of the face's calls with its arguments, and what it is to answer. */
    private record Case(String call, Object want, Check.On on) {
    }

    private static final String NONE_SUCH = "java.util.NoSuchElementException";
    private static final String ILLEGAL = "java.lang.IllegalArgumentException";

    /** Each operation, in this order on the object of worked(), and each changes something. */
    private static final Case[] OPERATIONS = {
        new Case("define a new one", 3, x -> Check.define(x, "p=1b")),
        new Case("define one that there is", 0, x -> Check.define(x, "m=3b+1a")),
        new Case("paint", 0x320032, x -> x.paint(0, 1, 1)),
        new Case("clean", 2, x -> x.clean(0)),
        new Case("change", 2, x -> x.change()),
        new Case("retire", 3, x -> x.retire(1, true)),
        new Case("heal", 52245, x -> x.heal(2)),
        new Case("refill", 1000, x -> x.refill(1, 900)),
        new Case("setMost", 3, x -> x.setMost(6)),
        new Case("setTolerance", 99999, x -> x.setTolerance(0)),
        new Case("retire, into use again", 0, x -> x.retire(1, false)),
        new Case("forget", 3, x -> x.forget(0))};

    public static void main(String[] args) {
        refusedOperations();
        refusedReadings();
        refusedQuestions();
        refusedWithoutTubesInUse();
        readingErrorsEmptyTheBuffer();
        codesBehindExceptions();
        recordedThoughNothingChanges();
        notRecorded();
        tenAreKept();
        undoneOneByOne();
        notUndone();
        snapshotOfEachOperation();
        Check.end("OperationsBoundaryTest");
    }

    private static Object answer(Check.On call, PaletteTubes x) {
        try {
            return call.answer(x);
        } catch (RuntimeException e) {
            return e.getClass().getName();
        }
    }

    // ---- refused calls

    /** An object in which everything has something to lose; mix m is broken and far, and each refusal can be had. */
    private static PaletteTubes prepared() {
        PaletteTubes x = Check.loaded("palette brushes 1 most 3 tolerance 50; tube a 100 0 0 9996; tube b 0 100 0 8; tube c 0 0 100 0;"
            + "mix m=2a+1c; mix n=1b;");
        x.paint(0, 1, 3);
        x.saveSnapshot();
        x.retire(2, true);
        x.format(0);
        again(x);
        return x;
    }

    /** The error position and the buffer as they are in prepared(). */
    private static void again(PaletteTubes x) {
        Check.query(x, "many #");
        Check.feed(x, "palette; tube q 1 2 3;");
    }

    private static void changesNothing(Supplier<PaletteTubes> from, Case... refused) {
        String untouched = Check.whole(from.get());
        for (Case one : refused) {
            PaletteTubes x = from.get();
            Check.due("Operations: " + one.call, answer(one.on, x), one.want);
            Check.due("Operations: changes nothing, " + one.call, Check.whole(x), untouched);
        }
    }

    private static void refusedOperations() {
        changesNothing(OperationsBoundaryTest::prepared,
            new Case("forget(2)", NONE_SUCH, x -> x.forget(2)),
            new Case("forget(-1)", NONE_SUCH, x -> x.forget(-1)),
            new Case("retire(3, true)", NONE_SUCH, x -> x.retire(3, true)),
            new Case("retire(-1, false)", NONE_SUCH, x -> x.retire(-1, false)),
            new Case("heal(2)", NONE_SUCH, x -> x.heal(2)),
            new Case("heal of one that is not broken", -2, x -> x.heal(1)),
            new Case("heal of one that is more than TOLERANCE far", -4, x -> x.heal(0)),
            new Case("paint(1, 1, 1)", NONE_SUCH, x -> x.paint(1, 1, 1)),
            new Case("paint(0, 2, 1)", NONE_SUCH, x -> x.paint(0, 2, 1)),
            new Case("paint(0, 1, 0)", ILLEGAL, x -> x.paint(0, 1, 0)),
            new Case("paint(0, 1, 100)", ILLEGAL, x -> x.paint(0, 1, 100)),
            new Case("paint of a broken one", -2, x -> x.paint(0, 0, 1)),
            new Case("paint with too few drops", -3, x -> x.paint(0, 1, 6)),
            new Case("clean(1)", NONE_SUCH, x -> x.clean(1)),
            new Case("clean(-1)", NONE_SUCH, x -> x.clean(-1)),
            new Case("refill(3, 1)", NONE_SUCH, x -> x.refill(3, 1)),
            new Case("refill(0, 0)", ILLEGAL, x -> x.refill(0, 0)),
            new Case("refill(1, 1000)", ILLEGAL, x -> x.refill(1, 1000)),
            new Case("refill(0, 4) of 9996", -2, x -> x.refill(0, 4)),
            new Case("setMost(0)", ILLEGAL, x -> x.setMost(0)),
            new Case("setMost(7)", ILLEGAL, x -> x.setMost(7)),
            new Case("setTolerance(-1)", ILLEGAL, x -> x.setTolerance(-1)),
            new Case("setTolerance(100000)", ILLEGAL, x -> x.setTolerance(100000)));
    }

    private static void refusedReadings() {
        changesNothing(OperationsBoundaryTest::prepared,
            new Case("define(-1)", ILLEGAL, x -> x.define(-1)),
            new Case("define(41) of 40", ILLEGAL, x -> x.define(41)),
            new Case("define(201)", ILLEGAL, x -> x.define(201)),
            new Case("mixed(-1)", ILLEGAL, x -> x.mixed(-1)),
            new Case("mixed(41) of 40", ILLEGAL, x -> x.mixed(41)),
            new Case("mixed(201)", ILLEGAL, x -> x.mixed(201)),
            new Case("query(-1)", ILLEGAL, x -> x.query(-1)),
            new Case("query(41) of 40", ILLEGAL, x -> x.query(41)),
            new Case("query(201)", ILLEGAL, x -> x.query(201)),
            new Case("load(-1)", ILLEGAL, x -> x.load(-1)),
            new Case("load(41) of 40", ILLEGAL, x -> x.load(41)),
            new Case("load(901)", ILLEGAL, x -> x.load(901)));
    }

    /** What only asks changes nothing either, whether it answers or not. */
    private static void refusedQuestions() {
        changesNothing(OperationsBoundaryTest::prepared,
            new Case("format(2)", NONE_SUCH, x -> x.format(2)),
            new Case("format(-1)", NONE_SUCH, x -> x.format(-1)),
            new Case("nearest(0, 4, 0)", ILLEGAL, x -> x.nearest(0, 4, 0)),
            new Case("nearest(0, 3, 1)", 2, x -> x.nearest(0, 3, 1)),
            new Case("fewest(0)", PaletteTubes.NONE, x -> x.fewest(0)),
            new Case("fewest(-1)", ILLEGAL, x -> x.fewest(-1)),
            new Case("loss(0)", 5445, x -> x.loss(0)),
            new Case("wouldPaint(0, 1)", 0x006400, x -> x.wouldPaint(0, 1)),
            new Case("wouldPaint(1, 1)", NONE_SUCH, x -> x.wouldPaint(1, 1)),
            new Case("bestBrush(0)", 0, x -> x.bestBrush(0)),
            new Case("painting(1, 0)", NONE_SUCH, x -> x.painting(1, 0)),
            new Case("formattedByte(0)", (int) 'm', x -> x.formattedByte(0)),
            new Case("size(10)", NONE_SUCH, x -> x.size(10)));
    }

    private static void refusedWithoutTubesInUse() {
        changesNothing(() -> {
            PaletteTubes x = prepared();
            x.retire(0, true);
            x.retire(1, true);
            return x;
        }, new Case("heal, no tube is in use", -3, x -> x.heal(0)),
            new Case("nearest, no tube is in use", PaletteTubes.NONE, x -> x.nearest(0, 3, 3)),
            new Case("loss, no tube is in use", PaletteTubes.NONE, x -> x.loss(0)));
    }

    private static void readingErrorsEmptyTheBuffer() {
        String untouched = Check.whole(prepared());
        Case[] errors = {new Case("define", -11, x -> x.define(40)), new Case("mixed", -11, x -> x.mixed(40)),
            new Case("query", PaletteTubes.HIDDEN - 1, x -> x.query(40)), new Case("load", -11, x -> x.load(20)),
            new Case("define of nothing", -11, x -> x.define(0)), new Case("mixed of nothing", -11, x -> x.mixed(0)),
            new Case("query of nothing", PaletteTubes.HIDDEN - 1, x -> x.query(0)), new Case("load of nothing", -11, x -> x.load(0))};
        for (Case error : errors) {
            PaletteTubes x = prepared();
            Check.due("Operations: an error of " + error.call, answer(error.on, x), error.want);
            Check.due("Operations: its position, " + error.call, x.errorPosition() >= 0 && x.errorPosition() != 5, true);
            Check.illegal("Operations: the buffer is empty, " + error.call, () -> x.load(1));
            again(x);
            Check.due("Operations: changes nothing else, " + error.call, Check.whole(x), untouched);
        }
    }

    private static void codesBehindExceptions() {
        Case[] cases = {new Case("paint(0, broken, 0)", ILLEGAL, x -> x.paint(0, 0, 0)),
            new Case("paint(0, broken, 100)", ILLEGAL, x -> x.paint(0, 0, 100)),
            new Case("paint(0, few drops, 100)", ILLEGAL, x -> x.paint(0, 1, 100)),
            new Case("paint(1, broken, 1)", NONE_SUCH, x -> x.paint(1, 0, 1)),
            new Case("paint(1, 1, 0)", NONE_SUCH, x -> x.paint(1, 1, 0)),
            new Case("paint(0, 2, 0)", NONE_SUCH, x -> x.paint(0, 2, 0)),
            new Case("paint(-1, -1, -1)", NONE_SUCH, x -> x.paint(-1, -1, -1)),
            new Case("paint(0, broken and empty, 1)", -2, x -> x.paint(0, 0, 1)),
            new Case("refill(full, 1000)", ILLEGAL, x -> x.refill(0, 1000)),
            new Case("refill(full, 0)", ILLEGAL, x -> x.refill(0, 0)),
            new Case("refill(3, 0)", NONE_SUCH, x -> x.refill(3, 0)),
            new Case("refill(full, 999)", -2, x -> x.refill(0, 999)),
            new Case("nearest(-1, 0, 10)", NONE_SUCH, x -> x.nearest(-1, 0, 10)),
            new Case("nearest(-1, 0, 9)", ILLEGAL, x -> x.nearest(-1, 0, 9))};
        for (Case one : cases) {
            Check.due("Operations: error codes are checked behind the exceptions, " + one.call, answer(one.on, prepared()), one.want);
        }
        PaletteTubes x = prepared();
        x.setTolerance(0);
        x.retire(0, true);
        x.retire(1, true);
        Check.due("Operations: in the order in which they are listed, heal -3 ahead of -4", x.heal(0), -3);
        PaletteTubes y = prepared();
        y.setTolerance(0);
        Check.due("Operations: in the order in which they are listed, heal -2 ahead of -4", y.heal(1), -2);
    }

    // ---- what is recorded

    private static PaletteTubes worked() {
        PaletteTubes x = Check.loaded("palette brushes 1 most 3 tolerance 99999; tube a 100 0 0; tube b 0 100 0; tube c 0 0 100;"
            + "mix m=2a+1c; mix n=1a+1c; mix o=9b;");
        x.paint(0, 1, 1);
        return x;
    }

    private static void recordedThoughNothingChanges() {
        Case[] cases = {new Case("define", 0, x -> Check.define(x, "m=2a+1c")), new Case("retire, in use", 0, x -> x.retire(0, false)),
            new Case("change", 0, x -> x.change()), new Case("setMost", 3, x -> x.setMost(3)),
            new Case("setTolerance", 99999, x -> x.setTolerance(99999))};
        for (Case one : cases) {
            PaletteTubes x = worked();
            recordedOnce(one, x, 1);
        }
        PaletteTubes x = worked();
        x.clean(0);
        recordedOnce(new Case("clean", 1, y -> y.clean(0)), x, 2);
        x = worked();
        x.retire(0, true);
        recordedOnce(new Case("retire, retired", 2, y -> y.retire(0, true)), x, 2);
    }

    private static void recordedOnce(Case one, PaletteTubes x, int count) {
        String before = Check.state(x);
        Check.due("Operations: the test's own count, " + one.call, x.undoCount(), count);
        Check.due("Operations: changes nothing, " + one.call, answer(one.on, x) + " " + Check.state(x), one.want + " " + before);
        Check.due("Operations: is recorded, " + one.call, x.undoCount(), count + 1);
        Check.due("Operations: undone, " + one.call, x.undo() + " " + Check.state(x), count + " " + before);
    }

    private static void notRecorded() {
        PaletteTubes x = worked();
        x.feed(0, 0, 0, 0, 0);
        x.mixed(0);
        Check.mixed(x, "1a");
        Check.query(x, "many 1=1");
        Check.query(x, "many");
        Check.define(x, "new");
        x.errorPosition();
        x.format(0);
        x.formattedByte(0);
        x.nearest(0, 3, 0);
        x.fewest(0);
        x.called(0);
        x.loss(0);
        x.wouldPaint(0, 0);
        x.bestBrush(0);
        x.saveSnapshot();
        Check.due("Operations: none of these is one", x.undoCount(), 1);
        Check.load(x, "error");
        Check.due("Operations: an error of load does not discard them", x.undoCount(), 1);
    }

    // ---- undoing

    /** So many operations, or so many undone where it is less than 0. */
    private static void tenAreKept() {
        PaletteTubes x = new PaletteTubes();
        Deque<Integer> past = new ArrayDeque<>();
        int now = 300;
        int next = 1000;
        for (int step : new int[] {9, 1, 1, -3, 2, -11, 1, -2, 10, -10, -1, 11, -11, 25, -4, 7, -5, 3, -8, 12, -12}) {
            for (int i = 0; i < step; i++) {
                Check.due("Operations: TOLERANCE before", x.setTolerance(next), now);
                past.push(now);
                now = next++;
                if (past.size() > 10) {
                    past.removeLast();
                }
                Check.due("Operations: the 10 most recent can be undone", x.undoCount(), past.size());
            }
            for (int i = step; i < 0; i++) {
                int left = past.isEmpty() ? PaletteTubes.NONE : past.size() - 1;
                now = past.isEmpty() ? now : past.pop();
                Check.due("Operations: the most recent one first", x.undo() + " " + x.size(6), left + " " + now);
                Check.due("Operations: how many are left", x.undoCount(), Math.max(0, left));
            }
        }
    }

    private static PaletteTubes after(int operations) {
        PaletteTubes x = worked();
        for (int i = 0; i < operations; i++) {
            Check.due("Operations: the test's own, " + OPERATIONS[i].call, answer(OPERATIONS[i].on, x), OPERATIONS[i].want);
        }
        return x;
    }

    private static void undoneOneByOne() {
        for (int undone = 1; undone <= 10; undone++) {
            PaletteTubes x = after(OPERATIONS.length);
            for (int i = 0; i < undone; i++) {
                Check.due("Operations: left", x.undo(), 9 - i);
            }
            int left = OPERATIONS.length - undone;
            Check.due("Operations: undoing restores everything, " + OPERATIONS[left].call, Check.state(x), Check.state(after(left)));
        }
        for (int i = 0; i < OPERATIONS.length; i++) {
            PaletteTubes x = after(i + 1);
            Check.due("Operations: the test's own, changes something, " + OPERATIONS[i].call,
                Check.state(after(i + 1)).equals(Check.state(after(i))), false);
            x.undo();
            Check.due("Operations: undoing restores everything, " + OPERATIONS[i].call, Check.state(x), Check.state(after(i)));
            OPERATIONS[i].on.answer(x);
            Check.due("Operations: done again, " + OPERATIONS[i].call, Check.state(x), Check.state(after(i + 1)));
        }
    }

    private static void notUndone() {
        for (boolean bySnapshot : new boolean[] {false, true}) {
            String what = "Operations: " + (bySnapshot ? "restoreSnapshot" : "undo") + " restores not ";
            PaletteTubes x = worked();
            x.saveSnapshot();
            Check.query(x, "many #");
            Check.feed(x, "p=1b");
            x.define(4);
            back(x, bySnapshot);
            Check.illegal(what + "the buffer that define emptied", () -> x.load(1));
            Check.due(what + "the error position", x.errorPosition(), -1);
            x.change();
            Check.mixed(x, " ?");
            Check.feed(x, "palette;");
            back(x, bySnapshot);
            Check.due(what + "the error position", x.errorPosition(), 1);
            x.retire(0, true);
            x.format(0);
            back(x, bySnapshot);
            Check.due(what + "the text of format", x.mix(0, 5) + " " + Check.formatted(x), "0 m=2a+1c!");
            Check.due(what + "the buffer that is fed", x.load(20) + " " + x.size(0), "0 0");
            Check.due("Promise 38: also behind load", Check.formatted(x), "m=2a+1c!");
        }
        PaletteTubes x = worked();
        x.saveSnapshot();
        x.setMost(1);
        x.saveSnapshot();
        x.setMost(2);
        x.undo();
        x.undo();
        Check.due("Operations: undo restores not the snapshot", x.size(5) + " " + x.restoreSnapshot() + " " + x.size(5), "3 true 1");
    }

    private static void back(PaletteTubes x, boolean bySnapshot) {
        if (bySnapshot) {
            x.restoreSnapshot();
        } else {
            x.undo();
        }
    }

    private static void snapshotOfEachOperation() {
        for (int i = 0; i < OPERATIONS.length; i++) {
            PaletteTubes x = after(i);
            x.saveSnapshot();
            String what = "Promise 42: restores the snapshot, " + OPERATIONS[i].call;
            for (int times = 0; times < 2; times++) {
                OPERATIONS[i].on.answer(x);
                Check.due(what, x.restoreSnapshot() + " " + Check.state(x), "true " + Check.state(after(i)));
                Check.due("Promise 42: clears the undo history", x.undoCount() + " " + x.undo(), "0 -1");
            }
        }
    }
}
