import java.util.function.Supplier;
import java.util.function.ToIntFunction;

/** BAD, NO, NONE and FULL: by what, which of several, and that nothing changes then. */
public final class RefusalEdges extends Checks {
    private static final int[] NOT_ZERO_OR_ONE = {-1, 2, LEAST, MOST};

    public static void main(String[] args) {
        test("the walls of these tests", RefusalEdges::theWallsOfTheseTests);
        sentence("BAD: a number is none that is told (NAILS, CELLS, COLUMNS: such as there are;", RefusalEdges::badNails);
        sentence("NAILS, CELLS, COLUMNS: such as there are;", RefusalEdges::badCellsAndColumns);
        sentence("BAD: a number is none that is told", RefusalEdges::badNumbers);
        sentence("NAILS that are OUT as well, where nothing else is said)", RefusalEdges::outNailsAsWell);
        sentence("NO: not as things stand.", RefusalEdges::notAsThingsStand);
        sentence("NONE: there is none.", RefusalEdges::thereIsNone);
        sentence("FULL.", RefusalEdges::full);
        sentence("Of several the first in this order, whatever the order at a call;", RefusalEdges::badAheadOfAll);
        sentence("Of several the first in this order, whatever the order at a call;", RefusalEdges::noAheadOfFull);
        sentence("nothing changes then.", RefusalEdges::nothingChangesByManyRefusals);
        sentence("An object is used for at most 512 calls after it has been made", RefusalEdges::fiveHundredAndTwelveCalls);
        test("asking changes nothing", RefusalEdges::askingChangesNothing);
        end();
    }

    // ---- what stands, and that it stays

    /** Six nails, nail 3 out; 5 days gone by, all that was done to be undone; one kept, two measured, a text. */
    private static NailedYears some() {
        NailedYears x = new NailedYears();
        x.pass(2);
        x.pull(3, 2);
        x.keep();
        x.hammer(0);
        x.oil(4);
        x.pass(3);
        x.measure(0, 5, 5);
        x.measure(2, 2, 1);
        writeAll(x, "w2,2;n0,0,1,1;");
        return x;
    }

    /** Nine nails, 0, 3 and 6 out; two kept, six measured, eight to be undone, and a text with a fault. */
    private static NailedYears most() {
        NailedYears x = new NailedYears();
        x.keep();
        x.pull(0, 6);
        x.drive(2, 19, 4, 5);
        x.pull(6, 4);
        x.keep();
        x.drive(4, 18, 9, 63);
        x.drive(3, 2, 3, 1);
        for (int k = 1; k <= 6; k++) {
            x.pass(1);
            x.measure(k, k, k);
        }
        writeAll(x, "n0,0,1,1");
        return x;
    }

    /** THE TEXT has 200 letters. */
    private static NailedYears fullText() {
        return written("n0,0,1,1;n0,1,1,1;" + repeated("b5;", 60) + "b0");
    }

    private static NailedYears nothing() {
        return new NailedYears();
    }

    /** One nail, out, and nothing that could be undone or given back. */
    private static NailedYears bare() {
        NailedYears x = laid("w2,2;n0,0,1,1;");
        x.pull(0, 1);
        x.keep();
        x.back();
        return x;
    }

    private static void theWallsOfTheseTests() {
        int[] some = {20, 6, 1, 2, 5, 5, 2, 5, 1, 14};
        int[] most = {20, 9, 3, 3, 6, 5, 6, 8, 2, 8};
        int[] bare = {4, 1, 1, 0, 0, 7, 0, 0, 0, 14};
        for (int what = 0; what <= 9; what++) {
            due("some: count(" + what + ")", some().count(what), some[what]);
            due("most: count(" + what + ")", most().count(what), most[what]);
            due("bare: count(" + what + ")", bare().count(what), bare[what]);
        }
        due("fullText: count(9)", fullText().count(9), 200);
        due("fullText: fault()", fullText().fault(), 198);
    }

    private static void refused(Supplier<NailedYears> state, String call, ToIntFunction<NailedYears> refusal, int due) {
        NailedYears x = state.get();
        due(call, refusal.applyAsInt(x), due);
        same("what stands behind " + call, everything(x), everything(state.get()));
    }

    private static void bad(String call, ToIntFunction<NailedYears> refusal) {
        refused(RefusalEdges::some, call, refusal, BAD);
        refused(RefusalEdges::most, call, refusal, BAD);
    }

    // ---- BAD

    private static void badNails() {
        for (int i : new int[] {-1, 9, 32, 64, LEAST, MOST}) {
            bad("nail(" + i + ", 0)", x -> x.nail(i, 0));
            bad("hammer(" + i + ")", x -> x.hammer(i));
            bad("oil(" + i + ")", x -> x.oil(i));
            bad("pull(" + i + ", 1)", x -> x.pull(i, 1));
            bad("behind(1, " + i + ", 0)", x -> x.behind(1, i, 0));
            bad("from(" + i + ", 0)", x -> x.from(i, 0));
            bad("measure(" + i + ", 1, 1)", x -> x.measure(i, 1, 1));
            bad("kinds(" + i + ")", x -> x.kinds(i));
            bad("shaken(" + i + ", 1, 1, 0)", x -> x.shaken(i, 1, 1, 0));
        }
        // The seventh nail is none where there are six.
        refused(RefusalEdges::some, "hammer(6)", x -> x.hammer(6), BAD);
        refused(RefusalEdges::some, "oil(6)", x -> x.oil(6), BAD);
        refused(RefusalEdges::some, "pull(6, 1)", x -> x.pull(6, 1), BAD);
        refused(RefusalEdges::some, "measure(6, 1, 1)", x -> x.measure(6, 1, 1), BAD);
    }

    private static void badCellsAndColumns() {
        for (int cell : new int[] {-1, 20, 36, LEAST, MOST}) {
            bad("cell(" + cell + ")", x -> x.cell(cell));
            bad("drive(0, " + cell + ", 1, 0)", x -> x.drive(0, cell, 1, 0));
        }
        for (int c : new int[] {-1, 5, 6, LEAST, MOST}) {
            bad("damp(" + c + ")", x -> x.damp(c));
            bad("damps(" + c + ")", x -> x.damps(c));
        }
        refused(RefusalEdges::bare, "cell(4)", x -> x.cell(4), BAD);
        refused(RefusalEdges::bare, "drive(0, 4, 1, 0)", x -> x.drive(0, 4, 1, 0), BAD);
        refused(RefusalEdges::bare, "damp(2)", x -> x.damp(2), BAD);
        refused(RefusalEdges::bare, "damps(2)", x -> x.damps(2), BAD);
    }

    private static void badNumbers() {
        for (int n : new int[] {-1, 127, LEAST, MOST}) {
            bad("write(" + n + ")", x -> x.write(n));
            bad("nail(0, " + n + ")", x -> x.nail(0, n));
            bad("pass(" + n + ")", x -> x.pass(n));
            bad("pull(1, " + n + ")", x -> x.pull(1, n));
            bad("drive(" + n + ", 15, 1, 0)", x -> x.drive(n, 15, 1, 0));
            bad("drive(0, 15, " + n + ", 0)", x -> x.drive(0, 15, n, 0));
            bad("drive(0, 15, 1, " + n + ")", x -> x.drive(0, 15, 1, n));
            bad("behind(" + n + ", 0, 0)", x -> x.behind(n, 0, 0));
            bad("behind(1, 0, " + n + ")", x -> x.behind(1, 0, n));
            bad("blows(" + n + ")", x -> x.blows(n));
            bad("letOut(" + n + ", 0)", x -> x.letOut(n, 0));
            bad("from(1, " + n + ")", x -> x.from(1, n));
            bad("measure(1, " + n + ", 1)", x -> x.measure(1, n, 1));
            bad("measure(1, 1, " + n + ")", x -> x.measure(1, 1, n));
            bad("shaken(1, " + n + ", 1, 0)", x -> x.shaken(1, n, 1, 0));
            bad("shaken(1, 1, " + n + ", 0)", x -> x.shaken(1, 1, n, 0));
            bad("century(1, " + n + ", 0)", x -> x.century(1, n, 0));
            bad("count(" + n + ")", x -> x.count(n));
        }
        for (int what : NOT_ZERO_OR_ONE) {
            bad("first(" + what + ")", x -> x.first(what));
            bad("clash(" + what + ")", x -> x.clash(what));
            bad("room(" + what + ")", x -> x.room(what));
            bad("letOut(0, " + what + ")", x -> x.letOut(0, what));
            bad("shaken(1, 1, 1, " + what + ")", x -> x.shaken(1, 1, 1, what));
            bad("century(1, 1, " + what + ")", x -> x.century(1, 1, what));
        }
        bad("century(-1, 1, 0)", x -> x.century(-1, 1, 0));
        bad("century(10000, 1, 0)", x -> x.century(10000, 1, 0));
        bad("pass(0)", x -> x.pass(0));
        bad("pass(31)", x -> x.pass(31));
        bad("pull(1, 0)", x -> x.pull(1, 0));
        bad("pull(1, 10)", x -> x.pull(1, 10));
        bad("drive(5, 15, 1, 0)", x -> x.drive(5, 15, 1, 0));
        bad("drive(2, 15, 5, 0)", x -> x.drive(2, 15, 5, 0));
        bad("drive(0, 15, 10, 0)", x -> x.drive(0, 15, 10, 0));
        bad("drive(0, 15, 1, 64)", x -> x.drive(0, 15, 1, 64));
        bad("measure(1, 31, 1)", x -> x.measure(1, 31, 1));
        bad("measure(1, 1, 10)", x -> x.measure(1, 1, 10));
    }

    /** Nail 3 is out. */
    private static void outNailsAsWell() {
        int[] slots = {3, 7, 0, 0, 0, 0};
        for (int what = 0; what < slots.length; what++) {
            due("nail(3, " + what + ")", some().nail(3, what), slots[what]);
        }
        for (int what = 0; what <= 2; what++) {
            due("behind(0, 3, " + what + ")", some().behind(0, 3, what), 0);
            due("behind(60, 3, " + what + ")", some().behind(60, 3, what), 0);
        }
        due("measure(3, 1, 0)", some().measure(3, 1, 0), 3);
        due("something else is said: hammer(3)", some().hammer(3), NO);
        due("something else is said: oil(3)", some().oil(3), NO);
        due("something else is said: pull(3, 1)", some().pull(3, 1), NO);
        due("something else is said: kinds(3)", some().kinds(3), NO);
        due("something else is said: shaken(3, 0, 0, 0)", some().shaken(3, 0, 0, 0), NO);
        due("its year has it not: from(3, 4)", some().from(3, 4), NO);
    }

    // ---- NO, NONE, FULL

    private static void notAsThingsStand() {
        refused(RefusalEdges::nothing, "lay() of no text", x -> x.lay(), NO);
        refused(RefusalEdges::most, "lay() of a text with a fault", x -> x.lay(), NO);
        refused(RefusalEdges::fullText, "lay() of a full text with a fault", x -> x.lay(), NO);
        refused(RefusalEdges::nothing, "undo()", x -> x.undo(), NO);
        refused(RefusalEdges::bare, "undo() behind back()", x -> x.undo(), NO);
        refused(RefusalEdges::nothing, "back()", x -> x.back(), NO);
        refused(RefusalEdges::bare, "back() behind back()", x -> x.back(), NO);
        refused(RefusalEdges::nothing, "hammer(3), bent", x -> x.hammer(3), NO);
        refused(RefusalEdges::nothing, "pull(3, 3), not so deep", x -> x.pull(3, 3), NO);
        refused(RefusalEdges::nothing, "drive(0, 13, 1, 0), not free", x -> x.drive(0, 13, 1, 0), NO);
        refused(RefusalEdges::nothing, "from(0, 1), it has it not", x -> x.from(0, 1), NO);
        refused(RefusalEdges::some, "hammer(3), out", x -> x.hammer(3), NO);
        refused(RefusalEdges::some, "oil(3), out", x -> x.oil(3), NO);
        refused(RefusalEdges::some, "pull(3, 1), out", x -> x.pull(3, 1), NO);
        refused(RefusalEdges::some, "from(3, 4), out", x -> x.from(3, 4), NO);
        refused(RefusalEdges::some, "kinds(3), out", x -> x.kinds(3), NO);
        refused(RefusalEdges::some, "shaken(3, 8, 5, 1), out", x -> x.shaken(3, 8, 5, 1), NO);
    }

    private static void thereIsNone() {
        refused(RefusalEdges::nothing, "fault()", x -> x.fault(), NONE);
        refused(RefusalEdges::nothing, "cell(2)", x -> x.cell(2), NONE);
        refused(RefusalEdges::bare, "cell(0) of an out one", x -> x.cell(0), NONE);
        refused(RefusalEdges::nothing, "clash(0)", x -> x.clash(0), NONE);
        refused(RefusalEdges::nothing, "clash(1)", x -> x.clash(1), NONE);
        refused(RefusalEdges::nothing, "blows(30)", x -> x.blows(30), NONE);
        refused(RefusalEdges::bare, "first(0)", x -> x.first(0), NONE);
        refused(RefusalEdges::bare, "first(1)", x -> x.first(1), NONE);
        refused(RefusalEdges::bare, "letOut(0, 0)", x -> x.letOut(0, 0), NONE);
        refused(RefusalEdges::bare, "letOut(0, 1)", x -> x.letOut(0, 1), NONE);
        refused(() -> laid("w2,2;n0,0,9,0;n0,3,9,0;"), "room(1)", x -> x.room(1), NONE);
    }

    private static void full() {
        refused(RefusalEdges::fullText, "write(59)", x -> x.write(59), FULL);
        refused(RefusalEdges::fullText, "write(32)", x -> x.write(32), FULL);
        refused(RefusalEdges::most, "drive(0, 15, 1, 0)", x -> x.drive(0, 15, 1, 0), FULL);
        refused(RefusalEdges::most, "measure(1, 1, 1)", x -> x.measure(1, 1, 1), FULL);
        refused(RefusalEdges::most, "measure(0, 1, 0), out", x -> x.measure(0, 1, 0), FULL);
        refused(RefusalEdges::most, "keep()", x -> x.keep(), FULL);
    }

    // ---- which of several

    private static void badAheadOfAll() {
        // Ahead of NO: an out one, one not so deep, a cell that is not free, a deed that it has not.
        refused(RefusalEdges::some, "pull(3, 10)", x -> x.pull(3, 10), BAD);
        refused(RefusalEdges::some, "pull(3, 0)", x -> x.pull(3, 0), BAD);
        refused(RefusalEdges::some, "drive(2, 0, 5, 0)", x -> x.drive(2, 0, 5, 0), BAD);
        refused(RefusalEdges::some, "drive(5, 0, 1, 0)", x -> x.drive(5, 0, 1, 0), BAD);
        refused(RefusalEdges::some, "drive(0, 0, 1, 64)", x -> x.drive(0, 0, 1, 64), BAD);
        refused(RefusalEdges::some, "from(3, 6)", x -> x.from(3, 6), BAD);
        refused(RefusalEdges::some, "shaken(3, 9, 5, 0)", x -> x.shaken(3, 9, 5, 0), BAD);
        refused(RefusalEdges::some, "shaken(3, 8, 11, 0)", x -> x.shaken(3, 8, 11, 0), BAD);
        refused(RefusalEdges::some, "shaken(3, 8, 10, 2)", x -> x.shaken(3, 8, 10, 2), BAD);
        // Ahead of NONE, though NONE stands first at these calls.
        refused(RefusalEdges::bare, "first(2)", x -> x.first(2), BAD);
        refused(RefusalEdges::bare, "clash(2)", x -> x.clash(2), BAD);
        refused(RefusalEdges::bare, "letOut(6, 0)", x -> x.letOut(6, 0), BAD);
        refused(RefusalEdges::bare, "letOut(0, 2)", x -> x.letOut(0, 2), BAD);
        refused(RefusalEdges::bare, "cell(4)", x -> x.cell(4), BAD);
        refused(RefusalEdges::nothing, "blows(31) where one can not be kept", x -> x.blows(31), BAD);
        refused(RefusalEdges::nothing, "blows(0)", x -> x.blows(0), BAD);
        // Ahead of FULL.
        refused(RefusalEdges::fullText, "write(31)", x -> x.write(31), BAD);
        refused(RefusalEdges::fullText, "write(127)", x -> x.write(127), BAD);
        refused(RefusalEdges::most, "measure(9, 1, 1)", x -> x.measure(9, 1, 1), BAD);
        refused(RefusalEdges::most, "measure(1, 0, 1)", x -> x.measure(1, 0, 1), BAD);
        refused(RefusalEdges::most, "measure(1, 1, 10)", x -> x.measure(1, 1, 10), BAD);
        refused(RefusalEdges::most, "drive(0, 20, 1, 0)", x -> x.drive(0, 20, 1, 0), BAD);
        refused(RefusalEdges::most, "drive(0, 15, 0, 0)", x -> x.drive(0, 15, 0, 0), BAD);
        // Ahead of NO and FULL at once.
        refused(RefusalEdges::most, "drive(0, 18, 10, 0)", x -> x.drive(0, 18, 10, 0), BAD);
    }

    private static void noAheadOfFull() {
        refused(RefusalEdges::most, "drive(0, 18, 1, 0)", x -> x.drive(0, 18, 1, 0), NO);
        refused(RefusalEdges::most, "drive(2, 2, 4, 63)", x -> x.drive(2, 2, 4, 63), NO);
        refused(RefusalEdges::most, "drive(2, 19, 4, 63), freed", x -> x.drive(2, 19, 4, 63), FULL);
    }

    /** One behind the other, of all four sorts, on one object. */
    private static void nothingChangesByManyRefusals() {
        NailedYears x = most();
        int[] got = {x.write(127), x.pass(0), x.pass(31), x.hammer(9), x.oil(-1), x.pull(1, 0), x.pull(0, 10),
            x.drive(0, 18, 10, 0), x.measure(1, 31, 0), x.kinds(9), x.damps(5), x.first(2), x.clash(2), x.room(2)};
        for (int answer : got) {
            due("of those that are none", answer, BAD);
        }
        int[] not = {x.lay(), x.hammer(0), x.hammer(8), x.oil(0), x.pull(0, 1), x.pull(8, 9), x.drive(0, 18, 9, 0),
            x.from(0, 0), x.kinds(3), x.shaken(6, 8, 5, 0)};
        for (int answer : not) {
            due("of those that are not as things stand", answer, NO);
        }
        due("cell(0)", x.cell(0), NONE);
        due("blows(30)", x.blows(30), NONE);
        due("drive(0, 0, 1, 0)", x.drive(0, 0, 1, 0), FULL);
        due("measure(1, 1, 1)", x.measure(1, 1, 1), FULL);
        due("keep()", x.keep(), FULL);
        same("what stands behind them all", everything(x), everything(most()));
    }

    // ---- runs

    private static void fiveHundredAndTwelveCalls() {
        NailedYears days = new NailedYears();
        for (int call = 1; call <= 512; call++) {
            due("pass(30)", days.pass(30), 30 * call);
        }
        NailedYears hands = laid("n0,0,9,1;" + QUIET);
        for (int call = hands.count(9) + 3; call <= 512; call += 2) {
            due("pull(0, 2)", hands.pull(0, 2), 7);
            due("hammer(0)", hands.hammer(0), 9);
        }
        NailedYears asked = laid("n1,0,9,1;n0,1,9,1;n2,2,4,1;n3,3,9,1;n4,4,9,1;n4,5,9,1;n0,6,9,1;n1,7,9,1;n3,8,9,1;" + QUIET);
        for (int call = asked.count(9) + 3; call <= 512; call++) {
            due("shaken(0, 8, 5, 1)", asked.shaken(0, 8, 5, 1), 256);
        }
    }

    private static void askingChangesNothing() {
        asked("fault()", x -> x.fault());
        for (int what = 0; what <= 1; what++) {
            int w = what;
            asked("first(" + w + ")", x -> x.first(w));
            asked("clash(" + w + ")", x -> x.clash(w));
            asked("room(" + w + ")", x -> x.room(w));
            asked("letOut(0, " + w + ")", x -> x.letOut(0, w));
            asked("shaken(1, 8, 5, " + w + ")", x -> x.shaken(1, 8, 5, w));
            asked("century(77, 60, " + w + ")", x -> x.century(77, 60, w));
        }
        asked("behind(60, 1, 0)", x -> x.behind(60, 1, 0));
        asked("blows(1)", x -> x.blows(1));
        asked("blows(30)", x -> x.blows(30));
        asked("from(4, 0)", x -> x.from(4, 0));
        asked("kinds(2)", x -> x.kinds(2));
        asked("damps(2)", x -> x.damps(2));
        asked("nail(1, 5)", x -> x.nail(1, 5));
        asked("cell(0)", x -> x.cell(0));
        asked("damp(0)", x -> x.damp(0));
        asked("count(7)", x -> x.count(7));
    }

    private static void asked(String call, ToIntFunction<NailedYears> question) {
        NailedYears x = most();
        int once = question.applyAsInt(x);
        due(call + " again", question.applyAsInt(x), once);
        same("what stands behind " + call, everything(x), everything(most()));
    }
}
