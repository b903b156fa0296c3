import java.util.function.ToIntFunction;

/** The boundaries that the document names for days and what is done to nails: terms 2, promises 9 to 14. */
public final class DayEdges extends Checks {
    /** Numbers that are no nail where there are two. */
    private static final int[] NO_NAILS = {-1, 2, 8, 9, 32, LEAST, MOST};

    public static void main(String[] args) {
        rustOfDays();
        bells();
        outAndLoose();
        deedsOfHands();
        promises();
        end();
    }

    // ---- rust

    private static void rustOfDays() {
        sentence("A DAY (1 is the first)", DayEdges::theFirstDayIsOne);
        sentence("one step behind the other", DayEdges::oneStepBehindTheOther);
        sentence("each NAIL has as much more as the DAMP of its COLUMN (SILVER none)", DayEdges::rustByDamp);
        sentence("who has 10 or more then loses 10 of it, and is 1 less deep.", DayEdges::rustOfTen);
    }

    private static void theFirstDayIsOne() {
        NailedYears each = laid("n1,0,9,0;b1;");
        due("no day yet", each.count(4), 0);
        deep(each, 9);
        due("pass(1)", each.pass(1), 1);
        deep(each, 8);
        NailedYears second = laid("n1,0,9,0;b2;");
        second.pass(1);
        deep(second, 9);
        second.pass(1);
        deep(second, 8);
    }

    private static void oneStepBehindTheOther() {
        // Rust, then the bell, then mixing: from 4 to 2 and mixed on one day.
        NailedYears mixed = laid("w2,2;n0,0,4,1;n0,1,4,2;d0,5;d1,5;b2;");
        mixed.pass(1);
        years(mixed, 1, 2);
        mixed.pass(1);
        stands(mixed, 0, 2, 0, 3);
        stands(mixed, 1, 2, 0, 3);
        // From 3 to 1: mixed on that day, too; a horseshoe is out ahead of mixing, and nothing of it stays.
        NailedYears loose = laid("w2,2;n0,0,3,1;n3,1,2,2;d0,5;d1,0;b2;");
        loose.pass(2);
        stands(loose, 0, 1, 0, 3);
        NailedYears out = laid("w2,2;n2,0,3,1;n3,1,2,2;d0,5;d1,0;b2;");
        out.pass(2);
        stands(out, 0, 0, 0, 0);
        stands(out, 1, 2, 0, 2);
    }

    private static void rustByDamp() {
        NailedYears x = laid("w2,4;n0,0,5,1;n0,1,5,1;n1,2,5,1;n3,3,5,1;d0,0;d1,9;d2,9;d3,1;b30;");
        x.pass(1);
        rust(x, 0, 9, 0, 1);
        x.pass(28);
        stands(x, 0, 5, 0, 1);
        stands(x, 2, 5, 0, 1);
        stands(x, 3, 3, 9, 1);
    }

    private static void rustOfTen() {
        NailedYears x = laid("w2,5;n0,0,5,1;n0,1,5,1;n0,2,5,1;n0,3,5,1;n0,4,5,1;d0,9;d1,5;d2,3;d3,7;d4,1;b30;");
        x.pass(1);
        rust(x, 9, 5, 3, 7, 1);
        deep(x, 5, 5, 5, 5, 5);
        x.pass(1);
        // 18, 10, 6, 14, 2.
        rust(x, 8, 0, 6, 4, 2);
        deep(x, 4, 4, 5, 4, 5);
        x.pass(1);
        // 17, 5, 9, 11, 3.
        rust(x, 7, 5, 9, 1, 3);
        deep(x, 3, 4, 5, 3, 5);
        x.pass(6);
        rust(x, 0, 5, 7, 0, 9);
        due("9 has not lost", x.nail(4, 2), 5);
        x.pass(1);
        due("10 has", x.nail(4, 2) * 10 + x.nail(4, 3), 40);
    }

    // ---- the bell

    private static void bells() {
        sentence("On each B-th DAY", DayEdges::onEachBthDay);
        sentence("the BELL shakes each 1 less deep (a HORSESHOE 2, a BENT one not)", DayEdges::shakenByKind);
        sentence("a CROOKED one besides the NAIL in the CELL right of it, whatever that is, 1 less deep", DayEdges::leaning);
        sentence("a CROOKED one besides the NAIL in the CELL right of it", DayEdges::nothingRightOfIt);
        sentence("(who is 0 deep ahead of the BELL neither is shaken nor leans)", DayEdges::whoIsOutLeansNot);
        sentence("(who is 0 deep ahead of the BELL neither is shaken nor leans)", DayEdges::whoComesOutByTheBellLeans);
        sentence("Nobody is less than 0 deep.", DayEdges::nobodyLessThanZero);
    }

    private static void onEachBthDay() {
        NailedYears two = laid("n1,0,9,0;b2;");
        int[] behind = {9, 8, 8, 7, 7, 6};
        for (int deep : behind) {
            two.pass(1);
            deep(two, deep);
        }
        two.pass(3);
        deep(two, 5);
        NailedYears thirty = laid("n1,0,9,0;b30;");
        thirty.pass(29);
        deep(thirty, 9);
        thirty.pass(1);
        deep(thirty, 8);
        thirty.pass(29);
        deep(thirty, 8);
        thirty.pass(1);
        deep(thirty, 7);
        NailedYears each = laid("n1,0,9,0;b1;");
        each.pass(8);
        deep(each, 1);
        each.pass(1);
        deep(each, 0);
    }

    private static void shakenByKind() {
        NailedYears x = laid("w2,5;n0,0,5,0;n1,1,5,0;n2,2,4,0;n3,3,5,0;n4,4,5,0;" + dry(5) + "b1;");
        x.pass(1);
        deep(x, 4, 4, 2, 5, 4);
        x.pass(1);
        deep(x, 3, 3, 0, 5, 3);
        x.pass(3);
        deep(x, 0, 0, 0, 5, 0);
    }

    private static void leaning() {
        NailedYears x = laid("w2,6;n4,0,5,0;n3,1,5,0;n4,2,5,0;n1,3,5,0;n4,4,5,0;n4,5,5,0;n4,6,5,0;n2,7,4,0;n4,8,5,0;"
            + dry(6) + "b1;");
        x.pass(1);
        // A bent one is leaned on, a silver one, a crooked one, a horseshoe (2 and 1); cell 6 is not right of cell 5.
        deep(x, 4, 4, 4, 3, 4, 3, 4, 1, 4);
    }

    private static void nothingRightOfIt() {
        NailedYears last = laid("w2,2;n4,1,5,0;n0,2,5,0;n4,3,5,0;n0,0,5,0;" + dry(2) + "b1;");
        last.pass(1);
        deep(last, 4, 4, 4, 4);
        NailedYears free = laid("w2,3;n4,0,5,0;n0,2,5,0;n0,3,5,0;" + dry(3) + "b1;");
        free.pass(1);
        deep(free, 4, 4, 4);
        NailedYears out = laid("w2,3;n4,0,5,0;n0,1,5,0;" + dry(3) + "b1;");
        out.pull(1, 5);
        out.pass(1);
        deep(out, 4, 0);
        out.drive(0, 1, 5, 0);
        out.pass(1);
        deep(out, 3, 0, 3);
    }

    private static void whoIsOutLeansNot() {
        NailedYears rusted = laid("w2,2;n4,0,1,0;n0,1,5,0;d0,5;d1,0;b2;");
        rusted.pass(2);
        deep(rusted, 0, 4);
        NailedYears pulled = laid("w2,2;n4,0,1,0;n0,1,5,0;" + dry(2) + "b1;");
        pulled.pull(0, 1);
        pulled.pass(1);
        deep(pulled, 0, 4);
        pulled.drive(0, 0, 5, 0);
        pulled.pass(1);
        deep(pulled, 0, 3, 4);
    }

    private static void whoComesOutByTheBellLeans() {
        NailedYears x = laid("w2,2;n4,0,1,0;n0,1,5,0;" + dry(2) + "b1;");
        x.pass(1);
        deep(x, 0, 3);
        x.pass(1);
        deep(x, 0, 2);
        // Nail 0 leans on nail 1 ahead of that one's turn; it was 1 deep ahead of the bell, so it leans as well.
        NailedYears chain = laid("w2,3;n4,0,3,0;n4,1,1,0;n0,2,5,0;" + dry(3) + "b1;");
        chain.pass(1);
        deep(chain, 2, 0, 3);
    }

    private static void nobodyLessThanZero() {
        NailedYears x = laid("w2,4;n2,0,1,0;n2,1,2,0;n2,2,3,0;n4,4,9,0;n0,5,1,0;n0,3,1,0;d0,0;d1,0;d2,0;d3,5;b2;");
        x.pass(2);
        // A horseshoe of 1, of 2, of 3; leaned on and shaken from 1; rusted through and shaken on one day from 1.
        deep(x, 0, 0, 1, 8, 0, 0);
        due("out", x.count(2), 4);
        x.pass(30);
        deep(x, 0, 0, 0, 0, 0, 0);
        due("behind(60, 0, 0)", x.behind(60, 0, 0), 0);
    }

    // ---- out, loose, mixing

    private static void outAndLoose() {
        sentence("Who is 0 deep is OUT: its CELL is free, its RUST and YEAR are 0.", DayEdges::whoIsZeroDeepIsOut);
        sentence("LOOSE is who is 1 or 2 deep", DayEdges::looseIsOneOrTwoDeep);
        sentence("two LOOSE NAILS in CELLS beside each other (up, down, right, left) MIX", DayEdges::cellsBesideEachOther);
        sentence("two LOOSE NAILS in CELLS beside each other", DayEdges::bothHaveToBeLoose);
        sentence("both YEARS have the DEEDS of both from then on", DayEdges::bothHaveTheDeedsOfBoth);
        sentence("NAILS 0 first in each", DayEdges::mixingGoesByNumbers);
        sentence("(twos by the lower number, then the higher)", DayEdges::mixingGoesByNumbers);
    }

    private static void whoIsZeroDeepIsOut() {
        NailedYears x = laid("w2,3;n0,0,1,7;n0,1,1,7;n0,2,1,7;n0,3,2,7;n3,4,1,7;d0,9;d1,3;d2,4;b2;");
        x.pass(1);
        stands(x, 0, 1, 9, 7);
        due("1 deep is not out", x.cell(0), 0);
        x.pull(2, 1);
        stands(x, 2, 0, 0, 0);
        due("pulled: its cell", x.cell(2), NONE);
        x.pass(1);
        // By rust (8 would be left), by the bell (rust 6), by rust and bell.
        stands(x, 0, 0, 0, 0);
        stands(x, 1, 0, 0, 0);
        stands(x, 3, 0, 0, 0);
        stands(x, 4, 1, 6, 7);
        due("cell(0)", x.cell(0), NONE);
        due("cell(1)", x.cell(1), NONE);
        due("cell(3)", x.cell(3), NONE);
        due("cell(4)", x.cell(4), 4);
        x.pass(5);
        stands(x, 0, 0, 0, 0);
        due("driven into a cell so freed", x.drive(0, 0, 1, 0), 5);
    }

    private static void looseIsOneOrTwoDeep() {
        NailedYears x = laid("n0,0,3,0;n0,2,2,0;n0,4,1,0;n0,10,9,0;" + QUIET);
        due("3 deep", x.nail(0, 5), 0);
        due("2 deep", x.nail(1, 5), 1);
        due("1 deep", x.nail(2, 5), 1);
        due("9 deep", x.nail(3, 5), 0);
        due("count(3)", x.count(3), 2);
        x.pull(2, 1);
        due("0 deep", x.nail(2, 5), 0);
        due("count(3)", x.count(3), 1);
        x.hammer(1);
        due("4 deep", x.nail(1, 5), 0);
        due("count(3)", x.count(3), 0);
        due("first(0)", x.first(0), 0);
        due("first(1)", x.first(1), 30);
    }

    /** All twos of cells of a wall of 3 by 3: neither corners nor the ends of rows and columns are beside each other. */
    private static void cellsBesideEachOther() {
        String beside = "01 12 34 45 67 78 03 36 14 47 25 58";
        for (int a = 0; a < 9; a++) {
            for (int b = a + 1; b < 9; b++) {
                NailedYears x = laid("w3,3;n0," + a + ",2,1;n0," + b + ",2,2;" + dry(3));
                x.pass(1);
                int due = beside.contains("" + a + b) ? 3 : 1;
                due("cells " + a + " and " + b + ": nail(0, 4)", x.nail(0, 4), due);
            }
        }
        NailedYears broad = laid("w2,6;n0,5,2,1;n0,6,2,2;" + dry(6));
        broad.pass(1);
        years(broad, 1, 2);
    }

    private static void bothHaveToBeLoose() {
        for (int one = 1; one <= 4; one++) {
            for (int other = 1; other <= 4; other++) {
                NailedYears x = laid("n0,0," + one + ",1;n0,1," + other + ",2;" + QUIET);
                x.pass(1);
                boolean mix = one <= 2 && other <= 2;
                due(one + " and " + other + " deep: nail(0, 4)", x.nail(0, 4), mix ? 3 : 1);
                due(one + " and " + other + " deep: nail(1, 4)", x.nail(1, 4), mix ? 3 : 2);
            }
        }
        NailedYears out = laid("n0,0,1,1;n0,1,2,2;" + dry(5) + "b1;");
        out.pass(1);
        years(out, 0, 2);
        NailedYears now = laid("n0,0,3,1;n0,1,3,2;" + dry(5) + "b1;");
        now.pass(1);
        years(now, 3, 3);
    }

    private static void bothHaveTheDeedsOfBoth() {
        NailedYears x = laid("n0,0,2,0;n0,1,2,63;n0,10,2,21;n0,15,2,42;n0,12,2,0;n0,13,2,0;" + QUIET);
        years(x, 0, 63, 21, 42, 0, 0);
        x.pull(0, 1);
        years(x, 0, 63);
        x.pass(1);
        years(x, 63, 63, 63, 63, 0, 0);
        x.hammer(0);
        x.pass(1);
        years(x, 63, 63);
        x.pull(0, 3);
        years(x, 0, 63);
    }

    private static void mixingGoesByNumbers() {
        NailedYears along = laid("n0,0,2,1;n0,1,2,2;n0,2,2,4;" + QUIET);
        along.pass(1);
        years(along, 3, 7, 7);
        NailedYears lastBetween = laid("n0,0,2,1;n0,2,2,2;n0,1,2,4;" + QUIET);
        lastBetween.pass(1);
        years(lastBetween, 5, 7, 7);
        NailedYears firstBetween = laid("n0,1,2,1;n0,0,2,2;n0,2,2,4;" + QUIET);
        firstBetween.pass(1);
        years(firstBetween, 7, 3, 7);
        firstBetween.pass(1);
        years(firstBetween, 7, 7, 7);
    }

    // ---- what is done to nails

    private static void deedsOfHands() {
        sentence("A NAIL can be HAMMERED (2 deeper, 9 at most, a HORSESHOE 4; a BENT one not)", DayEdges::hammeredNineAtMost);
        sentence("a HORSESHOE 4; a BENT one not)", DayEdges::hammeredHorseshoeAndBent);
        sentence("OILED (RUST 0)", DayEdges::oiled);
        sentence("PULLED by k (that much less deep; at 0 it is OUT)", DayEdges::pulledToZero);
        sentence("one be DRIVEN into a free CELL", DayEdges::drivenIntoAFreeCell);
        sentence("(9 NAILS at most in all, those OUT among them)", DayEdges::nineNailsInAll);
        sentence("UNDONE is the latest DAYS, blow, oiling, pulling, driving", DayEdges::undoneIsTheLatest);
        sentence("UNDONE is the latest DAYS, blow, oiling, pulling, driving", DayEdges::nothingIsLeftOfWhatIsUndone);
        sentence("(all that go by at one time are one;", DayEdges::daysAtOneTimeAreOne);
        sentence("the last 8 can be)", DayEdges::theLastEight);
        sentence("the last 8 can be)", DayEdges::blowsThatChangeNothingAreUndoneToo);
    }

    private static void hammeredNineAtMost() {
        for (int kind : new int[] {0, 1, 4}) {
            NailedYears x = laid("n" + kind + ",0,1,0;n" + kind + ",2,6,0;" + QUIET);
            for (int due : new int[] {3, 5, 7, 9, 9, 9}) {
                due("hammer(0) of kind " + kind, x.hammer(0), due);
            }
            due("from 6", x.hammer(1), 8);
            due("from 8", x.hammer(1), 9);
            due("nail(1, 2)", x.nail(1, 2), 9);
            due("9 holds as 9", x.behind(30, 1, 0), 8);
        }
    }

    private static void hammeredHorseshoeAndBent() {
        NailedYears x = laid("n2,0,1,0;n2,1,2,0;n2,2,4,0;n3,3,1,0;n3,4,9,0;" + QUIET);
        due("horseshoe from 1", x.hammer(0), 3);
        due("from 3", x.hammer(0), 4);
        due("from 4", x.hammer(0), 4);
        due("from 2", x.hammer(1), 4);
        due("laid 4 deep", x.hammer(2), 4);
        due("bent", x.hammer(3), NO);
        due("bent, 9 deep", x.hammer(4), NO);
        deep(x, 4, 4, 4, 1, 9);
    }

    private static void oiled() {
        NailedYears x = laid("w2,2;n0,0,5,1;n3,1,5,1;d0,9;d1,0;b30;");
        due("no rust yet", x.oil(0), 0);
        x.pass(1);
        due("9", x.oil(0), 9);
        stands(x, 0, 5, 0, 1);
        x.pass(1);
        stands(x, 0, 5, 9, 1);
        x.pass(1);
        due("what is left of 18", x.oil(0), 8);
        stands(x, 0, 4, 0, 1);
        due("no damp", x.oil(1), 0);
    }

    private static void pulledToZero() {
        NailedYears x = laid("n0,0,9,5;n2,1,4,6;n3,2,2,7;d0,4;b30;");
        x.pass(1);
        due("to 1", x.pull(0, 8), 1);
        stands(x, 0, 1, 4, 5);
        due("still in its cell", x.cell(0), 0);
        due("to 0", x.pull(0, 1), 0);
        stands(x, 0, 0, 0, 0);
        due("its cell is free", x.cell(0), NONE);
        due("a horseshoe", x.pull(1, 4), 0);
        due("a bent one", x.pull(2, 2), 0);
        due("out", x.count(2), 3);
        due("at once", laid("n0,0,9,5;").pull(0, 9), 0);
    }

    private static void drivenIntoAFreeCell() {
        NailedYears x = laid("w2,2;n0,0,1,0;n0,1,2,0;" + dry(2) + "b1;");
        due("not free", x.drive(0, 1, 1, 0), NO);
        due("not free, loose", x.drive(0, 0, 1, 0), NO);
        due("free", x.drive(0, 3, 1, 0), 2);
        due("not free any more", x.drive(0, 3, 1, 0), NO);
        x.pass(1);
        due("freed by the bell", x.drive(1, 0, 9, 63), 3);
        due("nail(3, 1)", x.nail(3, 1), 0);
        x.pull(1, 1);
        due("freed by pulling", x.drive(2, 1, 4, 0), 4);
        due("freed by the bell as well", x.drive(2, 3, 4, 0), 5);
        x.undo();
        due("freed by undoing", x.cell(3), NONE);
    }

    private static void nineNailsInAll() {
        NailedYears x = laid("w2,2;n0,0,1,0;n0,1,9,0;");
        x.pull(0, 1);
        for (int i = 2; i <= 8; i++) {
            due("drive", x.drive(0, 0, 1, 0), i);
            due("pull", x.pull(i, 1), 0);
        }
        due("nine", x.count(1), 9);
        due("eight of them out", x.count(2), 8);
        due("a tenth", x.drive(0, 0, 1, 0), FULL);
        due("count(1)", x.count(1), 9);
        x.undo();
        x.undo();
        due("the ninth again", x.drive(0, 0, 1, 0), 8);
        NailedYears laid = laid("n0,0,1,0;n0,1,1,0;n0,2,1,0;n0,3,1,0;n0,4,1,0;n0,5,1,0;n0,6,1,0;n0,7,1,0;n0,8,1,0;");
        due("a tenth behind nine that were laid", laid.drive(0, 9, 1, 0), FULL);
    }

    private static void undoneIsTheLatest() {
        NailedYears x = laid("w2,2;n0,0,5,1;n0,1,2,2;d0,9;d1,0;b30;");
        due("nothing yet", x.undo(), NO);
        x.pass(3);
        x.oil(0);
        x.hammer(0);
        x.pull(1, 2);
        x.drive(3, 1, 9, 63);
        due("count(7)", x.count(7), 5);
        due("driving", x.undo(), 4);
        due("no nail 2", x.nail(2, 0), BAD);
        due("count(1)", x.count(1), 2);
        stands(x, 1, 0, 0, 0);
        due("pulling", x.undo(), 3);
        stands(x, 1, 2, 0, 2);
        due("in its cell again", x.cell(1), 1);
        stands(x, 0, 5, 0, 1);
        due("blow", x.undo(), 2);
        stands(x, 0, 3, 0, 1);
        due("oiling", x.undo(), 1);
        stands(x, 0, 3, 7, 1);
        due("days", x.undo(), 0);
        stands(x, 0, 5, 0, 1);
        due("count(4)", x.count(4), 0);
        due("nothing any more", x.undo(), NO);
        due("mixed years as well", undoneMixing(), 1);
    }

    private static int undoneMixing() {
        NailedYears x = laid("n0,0,2,1;n0,1,2,2;" + QUIET);
        x.pass(1);
        due("mixed", x.nail(0, 4), 3);
        x.undo();
        return x.nail(0, 4);
    }

    /** Two loose ones, one that is firm, rust, one day gone by. */
    private static NailedYears standing() {
        NailedYears x = laid("w2,5;n0,0,2,17;n0,2,9,16;n0,6,1,2;d0,1;d1,3;d3,9;b30;");
        x.pass(1);
        x.keep();
        return x;
    }

    private static void undoneAsIfNot(String call, ToIntFunction<NailedYears> done) {
        NailedYears x = standing();
        done.applyAsInt(x);
        due("behind(0, 0, 0) of " + call, x.behind(0, 0, 0), x.nail(0, 2));
        due("undo() of " + call, x.undo(), 1);
        same("what stands behind " + call + " undone", everything(x), everything(standing()));
    }

    private static void nothingIsLeftOfWhatIsUndone() {
        undoneAsIfNot("pass(1)", x -> x.pass(1));
        undoneAsIfNot("pass(30)", x -> x.pass(30));
        undoneAsIfNot("hammer(0)", x -> x.hammer(0));
        undoneAsIfNot("oil(2)", x -> x.oil(2));
        undoneAsIfNot("pull(2, 1)", x -> x.pull(2, 1));
        for (int deep : new int[] {1, 2, 3, 9}) {
            undoneAsIfNot("drive(0, 1, " + deep + ", 63)", x -> x.drive(0, 1, deep, 63));
            undoneAsIfNot("drive(4, 5, " + deep + ", 63)", x -> x.drive(4, 5, deep, 63));
        }
        NailedYears again = standing();
        again.drive(0, 3, 9, 63);
        again.pass(1);
        due("rust of one that is undone later", again.nail(3, 3), 9);
        again.undo();
        again.undo();
        again.drive(0, 8, 9, 1);
        stands(again, 3, 9, 0, 1);
        NailedYears firm = laid("n1,0,9,0;" + QUIET);
        firm.drive(0, 2, 2, 1);
        due("loose", firm.first(0), 1);
        firm.undo();
        due("none is loose", firm.first(0), NONE);
        due("no deed", firm.letOut(0, 0), NONE);
    }

    private static void daysAtOneTimeAreOne() {
        NailedYears x = laid("n1,0,9,0;b5;");
        x.pass(1);
        x.pass(30);
        deep(x, 3);
        due("count(7)", x.count(7), 2);
        due("undo()", x.undo(), 1);
        due("count(4)", x.count(4), 1);
        deep(x, 9);
        due("the bell rings as by then", x.pass(4), 5);
        deep(x, 8);
    }

    private static void theLastEight() {
        NailedYears x = laid("n1,0,9,0;b30;");
        for (int k = 1; k <= 7; k++) {
            x.pass(1);
        }
        due("7", x.count(7), 7);
        x.pass(1);
        due("8", x.count(7), 8);
        x.pass(1);
        due("8 of 9", x.count(7), 8);
        for (int left = 7; left >= 0; left--) {
            due("undo()", x.undo(), left);
            due("count(4)", x.count(4), left + 1);
        }
        due("the ninth", x.undo(), NO);
        due("count(4)", x.count(4), 1);
        x.pass(2);
        due("anew", x.count(7), 1);
        due("undo()", x.undo(), 0);
        for (int k = 1; k <= 30; k++) {
            x.pull(0, 1);
            x.hammer(0);
        }
        due("8 of many", x.count(7), 8);
    }

    private static void blowsThatChangeNothingAreUndoneToo() {
        NailedYears x = laid("n0,0,9,0;n2,1,4,0;" + QUIET);
        x.pass(1);
        x.hammer(0);
        x.hammer(1);
        x.oil(0);
        due("count(7)", x.count(7), 4);
        due("oiling", x.undo(), 3);
        due("blow", x.undo(), 2);
        due("blow", x.undo(), 1);
        due("count(4)", x.count(4), 1);
        due("day", x.undo(), 0);
        due("count(4)", x.count(4), 0);
    }

    // ---- promises 9 to 14

    private static void promises() {
        sentence("n DAYS (1 to 30) go by: how many have gone by in all. BAD.", DayEdges::pass);
        sentence("A NAIL is HAMMERED: how deep it is. BAD; NO: BENT, OUT.", DayEdges::hammer);
        sentence("A NAIL is OILED: what RUST it had. BAD; NO: OUT.", DayEdges::oil);
        sentence("A NAIL is PULLED by k (1 to 9): how deep it is. BAD; NO: not so deep, OUT.", DayEdges::pull);
        sentence("One is DRIVEN, of a KIND, into CELL x, d deep (1 to 9; a HORSESHOE 1 to 4), with a YEAR: its number.",
            DayEdges::drive);
        sentence("BAD; NO: the CELL is not free; FULL.", DayEdges::driveRefused);
        sentence("UNDONE: how many more can be. NO.", DayEdges::undo);
    }

    private static void pass() {
        NailedYears x = laid("n1,0,9,1;b30;");
        for (int none : new int[] {0, -1, 31, 32, 60, -30, LEAST, MOST, 256 + 1}) {
            due("pass(" + none + ")", x.pass(none), BAD);
        }
        due("none has gone by", x.count(4), 0);
        due("nothing to undo", x.count(7), 0);
        due("pass(1)", x.pass(1), 1);
        due("pass(30)", x.pass(30), 31);
        due("pass(29)", x.pass(29), 60);
        due("count(4)", x.count(4), 60);
    }

    private static void hammer() {
        NailedYears x = laid("n0,0,1,0;n3,1,1,0;" + QUIET);
        for (int none : NO_NAILS) {
            due("hammer(" + none + ")", x.hammer(none), BAD);
        }
        due("bent", x.hammer(1), NO);
        due("iron", x.hammer(0), 3);
        x.pull(0, 3);
        x.pull(1, 1);
        due("out", x.hammer(0), NO);
        due("bent and out", x.hammer(1), NO);
        due("count(7)", x.count(7), 3);
    }

    private static void oil() {
        NailedYears x = laid("n0,0,1,0;n3,1,1,0;d0,9;d1,1;b30;");
        for (int none : NO_NAILS) {
            due("oil(" + none + ")", x.oil(none), BAD);
        }
        x.pass(1);
        due("the most there is", x.oil(0), 9);
        due("bent", x.oil(1), 1);
        x.pull(0, 1);
        due("out", x.oil(0), NO);
        due("count(7)", x.count(7), 4);
    }

    private static void pull() {
        NailedYears x = laid("n0,0,9,0;n3,1,3,0;" + QUIET);
        for (int none : NO_NAILS) {
            due("pull(" + none + ", 1)", x.pull(none, 1), BAD);
        }
        for (int none : new int[] {0, -1, 10, 16, LEAST, MOST}) {
            due("pull(0, " + none + ")", x.pull(0, none), BAD);
            due("pull(1, " + none + ")", x.pull(1, none), BAD);
        }
        due("not so deep by 1", x.pull(1, 4), NO);
        due("not so deep by far", x.pull(1, 9), NO);
        due("as it was", x.nail(1, 2), 3);
        due("just so deep", x.pull(1, 3), 0);
        due("out", x.pull(1, 1), NO);
        due("out, by 9", x.pull(1, 9), NO);
        due("by 1", x.pull(0, 1), 8);
        due("by 9 of 8", x.pull(0, 9), NO);
        due("count(7)", x.count(7), 2);
        due("by 9 of 9", laid("n0,0,9,0;").pull(0, 9), 0);
    }

    private static void drive() {
        for (int kind = 0; kind <= 4; kind++) {
            int deepest = kind == 2 ? 4 : 9;
            NailedYears x = laid("w2,2;n0,0,1,0;");
            due("0 deep", x.drive(kind, 1, 0, 0), BAD);
            due("-1 deep", x.drive(kind, 1, -1, 0), BAD);
            due("too deep", x.drive(kind, 1, deepest + 1, 0), BAD);
            due("far too deep", x.drive(kind, 1, MOST, 0), BAD);
            due("1 deep", x.drive(kind, 1, 1, 0), 1);
            due("the deepest", x.drive(kind, 3, deepest, 63), 2);
            due("nail(1, 0)", x.nail(1, 0), kind);
            stands(x, 1, 1, 0, 0);
            due("nail(2, 0)", x.nail(2, 0), kind);
            due("nail(2, 1)", x.nail(2, 1), 3);
            stands(x, 2, deepest, 0, 63);
            due("cell(3)", x.cell(3), 2);
        }
        due("a horseshoe 5 deep", laid("n0,0,1,0;").drive(2, 1, 5, 0), BAD);
    }

    private static void driveRefused() {
        NailedYears x = laid("w2,3;n0,0,1,0;");
        for (int none : new int[] {-1, 5, 9, LEAST, MOST}) {
            due("drive(" + none + ", 1, 1, 0)", x.drive(none, 1, 1, 0), BAD);
        }
        for (int none : new int[] {-1, 6, 19, 36, LEAST, MOST}) {
            due("drive(0, " + none + ", 1, 0)", x.drive(0, none, 1, 0), BAD);
        }
        for (int none : new int[] {-1, 64, 127, LEAST, MOST}) {
            due("drive(0, 1, 1, " + none + ")", x.drive(0, 1, 1, none), BAD);
        }
        due("not free", x.drive(0, 0, 1, 0), NO);
        due("none driven", x.count(1), 1);
        due("nothing to undo", x.count(7), 0);
        due("the last cell, the fullest year", x.drive(0, 5, 1, 63), 1);
        for (int i = 2; i <= 8; i++) {
            x.drive(0, 1, 1, 0);
            x.pull(i, 1);
        }
        due("nine, a free cell", x.drive(0, 1, 1, 0), FULL);
        due("nine, one that is not free", x.drive(0, 0, 1, 0), NO);
        due("nine, none such", x.drive(0, 6, 1, 0), BAD);
    }

    private static void undo() {
        NailedYears x = new NailedYears();
        due("of a new object", x.undo(), NO);
        x.hammer(0);
        x.hammer(0);
        due("of two", x.undo(), 1);
        due("of one", x.undo(), 0);
        due("of none", x.undo(), NO);
        due("still of none", x.undo(), NO);
        deep(x, 6);
        x.hammer(99);
        x.pull(0, 7);
        x.pass(0);
        x.drive(0, 0, 1, 1);
        x.keep();
        x.measure(0, 1, 1);
        x.write('b');
        due("what is refused, kept, measured, written is not undone", x.undo(), NO);
    }
}
