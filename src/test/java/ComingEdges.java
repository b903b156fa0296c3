/** The boundaries that the document names for what comes: terms 3, promises 15 to 20. */
public final class ComingEdges extends Checks {
    public static void main(String[] args) {
        behind();
        first();
        clash();
        room();
        blows();
        letOut();
        end();
    }

    /** Numbers that are none where 0 and 1 are told. */
    private static final int[] NO_WHAT = {-1, 2, 3, 32, 256, LEAST, MOST};

    // ---- behind

    private static void behind() {
        sentence("BEHIND n DAYS (0 to 60)", ComingEdges::behindZeroToSixty);
        sentence("BEHIND n DAYS (0 to 60)", ComingEdges::behindNoDays);
        sentence("how deep a NAIL is (0: OUT); its RUST; its YEAR.", ComingEdges::behindOfOutOnes);
        sentence("BEHIND: how deep (what = 0), RUST (1), YEAR (2). BAD.", ComingEdges::behindBad);
    }

    private static void behindZeroToSixty() {
        NailedYears x = laid("n1,0,9,21;" + QUIET);
        int[] days = {0, 1, 29, 30, 31, 59, 60};
        int[] deep = {9, 9, 9, 8, 8, 8, 7};
        for (int k = 0; k < days.length; k++) {
            due("behind(" + days[k] + ", 0, 0)", x.behind(days[k], 0, 0), deep[k]);
            due("behind(" + days[k] + ", 0, 2)", x.behind(days[k], 0, 2), 21);
        }
        for (int none : new int[] {-1, 61, 62, -60, 90, 256, LEAST, MOST}) {
            due("behind(" + none + ", 0, 0)", x.behind(none, 0, 0), BAD);
        }
        x.pass(30);
        x.pass(29);
        due("from 59 days on", x.behind(1, 0, 0), 7);
        due("from 59 days on, by the 60th and the 90th", x.behind(60, 0, 0), 6);
        due("no more days have gone by", x.count(4), 59);
    }

    private static void behindNoDays() {
        NailedYears x = laid("n0,0,2,1;n0,1,2,2;d0,7;d1,0;b1;");
        due("as deep as now", x.behind(0, 0, 0), 2);
        due("no rust yet", x.behind(0, 0, 1), 0);
        due("not mixed yet", x.behind(0, 0, 2), 1);
        due("behind one: deep", x.behind(1, 0, 0), 1);
        due("behind one: rust", x.behind(1, 0, 1), 7);
        due("behind one: mixed", x.behind(1, 0, 2), 3);
        due("nothing changes", x.nail(0, 4), 1);
    }

    private static void behindOfOutOnes() {
        NailedYears x = laid("n0,0,1,1;n0,1,2,2;d0,9;d1,9;b30;");
        due("1 deep", x.behind(1, 0, 0), 1);
        due("its rust", x.behind(1, 0, 1), 9);
        for (int what = 0; what <= 2; what++) {
            due("out behind 2: what " + what, x.behind(2, 0, what), 0);
            due("out behind 60: what " + what, x.behind(60, 0, what), 0);
        }
        x.pull(1, 2);
        for (int what = 0; what <= 2; what++) {
            due("out now, behind 0: what " + what, x.behind(0, 1, what), 0);
            due("out now, behind 60: what " + what, x.behind(60, 1, what), 0);
        }
    }

    private static void behindBad() {
        NailedYears x = laid("n0,0,9,1;n0,1,9,2;" + QUIET);
        for (int none : new int[] {-1, 2, 9, 32, LEAST, MOST}) {
            due("behind(0, " + none + ", 0)", x.behind(0, none, 0), BAD);
        }
        for (int none : new int[] {-1, 3, 4, 5, 256, LEAST, MOST}) {
            due("behind(0, 0, " + none + ")", x.behind(0, 0, none), BAD);
        }
        due("the last nail", x.behind(0, 1, 2), 2);
    }

    // ---- first

    private static void first() {
        sentence("the NAIL that is LOOSE first, now (0)", ComingEdges::firstNow);
        sentence("or behind some of the next 60 DAYS", ComingEdges::firstBehindSixtyDays);
        sentence("of several the lowest; behind how many; none.", ComingEdges::firstOfSeveral);
        sentence("of several the lowest; behind how many; none.", ComingEdges::firstOfNone);
        sentence("FIRST: which (what = 0), behind how many (1). NONE; BAD.", ComingEdges::firstBad);
    }

    private static void first(NailedYears x, int which, int behind) {
        due("first(0)", x.first(0), which);
        due("first(1)", x.first(1), behind);
    }

    private static void firstNow() {
        first(laid("n0,0,2,0;n0,1,9,0;" + QUIET), 0, 0);
        first(laid("n0,0,9,0;n0,1,1,0;" + QUIET), 1, 0);
        NailedYears three = laid("n0,0,3,0;" + dry(5) + "b1;");
        first(three, 0, 1);
        three.pass(1);
        first(three, 0, 0);
    }

    private static void firstBehindSixtyDays() {
        NailedYears sixty = laid("n1,0,4,0;" + QUIET);
        first(sixty, 0, 60);
        sixty.pass(1);
        first(sixty, 0, 59);
        // The bell rings behind 1, 31 and 61 days.
        NailedYears more = laid("n1,0,5,0;" + QUIET);
        more.pass(29);
        first(more, NONE, NONE);
        more.pass(1);
        first(more, 0, 60);
    }

    private static void firstOfSeveral() {
        first(laid("n0,0,9,0;n1,1,4,0;n1,3,4,0;" + QUIET), 1, 60);
        first(laid("n0,0,2,0;n0,1,1,0;n0,3,2,0;" + QUIET), 0, 0);
        // A higher one that is loose earlier comes first.
        first(laid("n1,0,4,0;n1,1,3,0;" + QUIET), 1, 30);
    }

    private static void firstOfNone() {
        NailedYears x = laid("n1,0,9,0;n3,1,3,0;" + QUIET);
        first(x, NONE, NONE);
        x.pull(0, 9);
        first(x, NONE, NONE);
        x.pull(1, 3);
        first(x, NONE, NONE);
        // From 3 to 0 on one day, by rust and the bell: out, but never loose.
        first(laid("n2,0,3,1;d0,5;b2;"), NONE, NONE);
    }

    private static void firstBad() {
        NailedYears none = laid("n1,0,9,0;" + QUIET);
        NailedYears some = laid("n1,0,2,0;" + QUIET);
        for (int what : NO_WHAT) {
            due("first(" + what + ") of none", none.first(what), BAD);
            due("first(" + what + ")", some.first(what), BAD);
        }
    }

    // ---- clash

    private static void clash() {
        sentence("the first two that MIX on one of the next 60 DAYS", ComingEdges::clashOnTheSixtiethDay);
        sentence("so that one of their YEARS has more DEEDS than ahead of it", ComingEdges::clashByMoreDeeds);
        sentence("as 10 times the lower and the higher", ComingEdges::clashOfTheFirstTwo);
        sentence("on which one (1 the first); none.", ComingEdges::clashOnTheFirstDay);
        sentence("CLASH: which (what = 0), behind how many (1). NONE; BAD.", ComingEdges::clashBad);
    }

    private static void clash(NailedYears x, int which, int day) {
        due("clash(0)", x.clash(0), which);
        due("clash(1)", x.clash(1), day);
    }

    private static void clashOnTheSixtiethDay() {
        NailedYears sixty = laid("n1,0,4,1;n1,1,4,2;" + QUIET);
        clash(sixty, 1, 60);
        sixty.pass(1);
        clash(sixty, 1, 59);
        // The bell rings behind 1, 31 and 61 days.
        NailedYears more = laid("n1,0,5,1;n1,1,5,2;" + QUIET);
        more.pass(29);
        clash(more, NONE, NONE);
        more.pass(1);
        clash(more, 1, 60);
    }

    private static void clashByMoreDeeds() {
        clash(laid("n0,0,2,5;n0,1,2,5;" + QUIET), NONE, NONE);
        clash(laid("n0,0,2,0;n0,1,2,0;" + QUIET), NONE, NONE);
        clash(laid("n0,0,2,63;n0,1,2,63;" + QUIET), NONE, NONE);
        clash(laid("n0,0,2,63;n0,1,2,62;" + QUIET), 1, 1);
        clash(laid("n0,0,2,0;n0,1,2,1;" + QUIET), 1, 1);
        clash(laid("n0,0,2,4;n0,1,2,4;n0,2,2,12;" + QUIET), 12, 1);
        NailedYears mixed = laid("n0,0,2,1;n0,1,2,2;" + QUIET);
        mixed.pass(1);
        clash(mixed, NONE, NONE);
        // On the first day 0 and 1 get 3, 2 gets 7; 0 gets 7 on the second.
        NailedYears along = laid("n0,0,2,1;n0,1,2,2;n0,2,2,4;" + QUIET);
        along.pass(1);
        clash(along, 1, 1);
    }

    private static void clashOfTheFirstTwo() {
        // 0 and 3 are beside each other, 1 and 2 as well: the lower number goes ahead.
        clash(laid("n0,0,2,1;n0,3,2,2;n0,4,2,4;n0,1,2,8;" + QUIET), 3, 1);
        // 2 and 3 on the first day, 0 and 1 later.
        clash(laid("n1,0,3,1;n1,1,3,2;n0,3,2,4;n0,4,2,8;" + QUIET), 23, 1);
        clash(laid("n1,0,9,1;n1,1,9,1;n1,2,9,1;n1,3,9,1;n1,4,9,1;n1,10,9,1;n1,12,9,1;n0,18,2,1;n0,19,2,2;" + QUIET), 78, 1);
        clash(laid("n0,0,2,1;n1,1,9,1;n1,6,9,1;n1,2,9,1;n1,3,9,1;n1,4,9,1;n1,10,9,1;n1,12,9,1;n0,5,2,2;" + QUIET), 8, 1);
    }

    private static void clashOnTheFirstDay() {
        NailedYears now = laid("n0,0,1,1;n0,1,2,2;" + QUIET);
        clash(now, 1, 1);
        now.pull(0, 1);
        clash(now, NONE, NONE);
        clash(laid("n0,0,3,1;n0,1,2,2;" + QUIET), 1, 30);
        clash(laid("n0,4,2,1;n0,5,2,2;" + QUIET), NONE, NONE);
        clash(laid("n0,0,2,1;n0,6,2,2;" + QUIET), NONE, NONE);
        clash(laid("n0,0,2,1;" + QUIET), NONE, NONE);
        // Out on the day on which they would mix.
        clash(laid("n0,0,1,1;n0,1,2,2;" + dry(5) + "b1;"), NONE, NONE);
    }

    private static void clashBad() {
        NailedYears none = laid("n1,0,9,0;" + QUIET);
        NailedYears some = laid("n1,0,2,1;n1,1,2,2;" + QUIET);
        for (int what : NO_WHAT) {
            due("clash(" + what + ") of none", none.clash(what), BAD);
            due("clash(" + what + ")", some.clash(what), BAD);
        }
    }

    // ---- room

    private static void room() {
        sentence("the most free CELLS of which none is beside another one of them", ComingEdges::roomWithoutNails);
        sentence("of which none is beside another one of them", ComingEdges::roomOverTheEndOfARow);
        sentence("or beside a NAIL: how many", ComingEdges::roomBesideNails);
        sentence("the lowest CELL that can be one of as many; none.", ComingEdges::roomTheLowest);
        sentence("ROOM: how many (what = 0), where the first (1; NONE: 0). BAD.", ComingEdges::roomOfNone);
    }

    private static void room(NailedYears x, int many, int where) {
        due("room(0)", x.room(0), many);
        due("room(1)", x.room(1), many == 0 ? NONE : where);
    }

    private static NailedYears empty(int rows, int columns) {
        NailedYears x = laid("w" + rows + "," + columns + ";n0,0,1,0;");
        x.pull(0, 1);
        return x;
    }

    private static void roomWithoutNails() {
        for (int rows = 2; rows <= 6; rows++) {
            for (int columns = 2; columns <= 6; columns++) {
                room(empty(rows, columns), (rows * columns + 1) / 2, 0);
            }
        }
    }

    private static void roomOverTheEndOfARow() {
        // Free and beside no nail are 3, 4, 6, 7 of two rows of four; 3 and 4 are not beside each other.
        room(laid("w2,4;n0,1,1,0;"), 3, 3);
        // Nor is 2 beside a nail in 1.
        room(laid("w2,2;n0,1,1,0;"), 1, 2);
        room(laid("w2,2;n0,2,1,0;"), 1, 1);
    }

    private static void roomBesideNails() {
        room(laid("w2,2;n0,0,1,0;"), 1, 3);
        room(laid("w2,2;n0,3,1,0;"), 1, 0);
        room(laid("w3,3;n0,4,9,0;"), 4, 0);
        room(laid("w3,3;n0,0,1,0;n0,2,1,0;n0,6,1,0;"), 2, 4);
        NailedYears x = laid("w3,3;n0,4,1,0;n0,0,2,0;");
        room(x, 3, 2);
        x.pull(0, 1);
        // Cell 0 is nailed: 2, 4, 5, 6, 7, 8 stay, of which 2, 4, 6, 8 are not beside each other.
        room(x, 4, 2);
        x.pull(1, 2);
        room(x, 5, 0);
    }

    private static void roomTheLowest() {
        // With 1 nailed 3, 6, 7, 8, 5 stay, one beside the next: 3, 7, 5.
        room(laid("w3,3;n0,1,1,0;"), 3, 3);
        // The only free one that nobody is beside.
        room(laid("w2,3;n0,0,1,0;n0,4,1,0;"), 1, 2);
        room(laid("w6,6;n0,35,1,0;"), 17, 0);
        room(laid("w6,6;n0,0,1,0;"), 17, 2);
        // Two rows of three with 4 nailed: 0 and 2 stay alone, beside neither.
        room(laid("w2,3;n0,4,1,0;"), 2, 0);
        // 0 is free, but beside 1 and 3, which are two.
        room(laid("w2,3;n0,5,1,0;"), 2, 1);
    }

    private static void roomOfNone() {
        NailedYears x = laid("w2,2;n0,0,1,0;n0,3,1,0;");
        room(x, 0, NONE);
        NailedYears full = laid("w2,2;n0,0,1,0;n0,1,1,0;n0,2,1,0;n0,3,1,0;");
        room(full, 0, NONE);
        NailedYears some = laid("w2,2;n0,0,1,0;");
        for (int what : NO_WHAT) {
            due("room(" + what + ") of none", x.room(what), BAD);
            due("room(" + what + ")", some.room(what), BAD);
        }
    }

    // ---- blows

    private static void blows() {
        sentence("BLOWS for n (1 to 30) DAYS", ComingEdges::blowsOneToThirty);
        sentence("of each NAIL that is 3 deep or more", ComingEdges::blowsOfThreeDeepOrMore);
        sentence("the fewest blows now by which it is so behind each of these DAYS, too", ComingEdges::blowsNineAtMost);
        sentence("the others being as they are", ComingEdges::blowsTheOthersAsTheyAre);
        sentence("as many in all; none (one can not be kept so).", ComingEdges::blowsNone);
        sentence("BLOWS. NONE; BAD.", ComingEdges::blowsBad);
    }

    private static void blowsOneToThirty() {
        NailedYears x = laid("n1,0,3,0;" + QUIET);
        due("blows(1)", x.blows(1), 0);
        due("blows(29)", x.blows(29), 0);
        due("blows(30)", x.blows(30), 1);
        due("blows(31)", x.blows(31), BAD);
        due("blows(0)", x.blows(0), BAD);
        x.pass(29);
        due("blows(1), the bell rings", x.blows(1), 1);
        due("blows(30)", x.blows(30), 1);
    }

    private static void blowsOfThreeDeepOrMore() {
        due("2 deep", laid("n1,0,2,0;" + dry(5) + "b1;").blows(30), 0);
        due("1 deep", laid("n1,0,1,0;" + dry(5) + "b1;").blows(30), 0);
        due("3 deep", laid("n1,0,3,0;" + dry(5) + "b1;").blows(1), 1);
        due("4 deep", laid("n1,0,4,0;" + dry(5) + "b1;").blows(1), 0);
        NailedYears x = laid("n1,0,3,0;n1,1,2,0;n1,2,9,0;" + dry(5) + "b1;");
        due("each for itself", x.blows(1), 1);
        x.pull(0, 3);
        due("an out one", x.blows(1), 0);
        x.pull(2, 9);
        x.pull(1, 2);
        due("all out", x.blows(30), 0);
    }

    private static void blowsNineAtMost() {
        // The bell rings on each 4th day: 6 times in 27 days, 7 times in 28.
        due("9 deep, 6 less", laid("n1,0,9,0;b4;").blows(27), 0);
        due("9 deep, 7 less", laid("n1,0,9,0;b4;").blows(28), NONE);
        due("8 deep, 6 less: 9 is enough", laid("n1,0,8,0;b4;").blows(27), 1);
        due("8 deep, 7 less", laid("n1,0,8,0;b4;").blows(28), NONE);
        due("3 deep, 6 less", laid("n1,0,3,0;b4;").blows(27), 3);
        due("3 deep, 5 less", laid("n1,0,3,0;b4;").blows(23), 3);
        due("3 deep, 4 less", laid("n1,0,3,0;b4;").blows(19), 2);
        due("horseshoe 4 deep, nothing less", laid("n2,0,4,0;" + QUIET).blows(29), 0);
        due("horseshoe 4 deep, 2 less", laid("n2,0,4,0;" + QUIET).blows(30), NONE);
        due("horseshoe 3 deep, 1 less by rust", laid("n2,0,3,0;d0,5;b30;").blows(3), 1);
        due("horseshoe 3 deep, 2 less by rust", laid("n2,0,3,0;d0,5;b30;").blows(4), NONE);
    }

    private static void blowsTheOthersAsTheyAre() {
        // The crooked one rusts out on day 4, ahead of the second bell, as long as nobody hits it: 3 blows for itself;
        // so it leans once, and the iron one, 4 deep, is 3 less: 1 blow.
        NailedYears x = laid("n4,0,3,0;n0,1,4,0;d0,9;d1,0;b2;");
        due("blows(4)", x.blows(4), 4);
        due("blows(1)", x.blows(1), 0);
        deep(x, 3, 4);
        due("nothing to undo", x.count(7), 0);
        // The crooked one is loose: no blow for it, but it leans twice.
        due("loose, but it leans", laid("n4,0,2,0;n0,1,5,0;" + dry(5) + "b1;").blows(4), 2);
    }

    private static void blowsNone() {
        due("bent, kept by itself", laid("n3,0,3,0;d0,1;b1;").blows(9), 0);
        due("bent, not kept", laid("n3,0,3,0;d0,1;b1;").blows(10), NONE);
        due("bent, leaned on", laid("n4,0,9,0;n3,1,3,0;" + dry(5) + "b1;").blows(1), NONE);
        due("bent and loose", laid("n3,0,2,0;d0,9;b1;").blows(30), 0);
        due("one that can not be is enough", laid("n0,0,3,0;n3,1,3,0;d0,5;d1,5;b30;").blows(2), NONE);
        due("the last one, too", laid("n3,0,9,0;n0,1,9,0;d0,0;d1,9;b1;").blows(30), NONE);
    }

    private static void blowsBad() {
        NailedYears none = laid("n3,0,3,0;d0,9;b1;");
        NailedYears some = laid("n0,0,9,0;" + QUIET);
        due("none", none.blows(30), NONE);
        for (int n : new int[] {0, -1, 31, 60, -30, 257, LEAST, MOST}) {
            due("blows(" + n + ") of none", none.blows(n), BAD);
            due("blows(" + n + ")", some.blows(n), BAD);
        }
    }

    // ---- letting out

    private static void letOut() {
        sentence("LET OUT a DEED (0 to 5)", ComingEdges::letOutZeroToFive);
        sentence("of NAILS in whose YEAR it is that one that has to be PULLED least to be LOOSE, of several the lowest", ComingEdges::letOutOfSeveral);
        sentence("by how much (0: it is); none.", ComingEdges::letOutOfLooseOnes);
        sentence("by how much (0: it is); none.", ComingEdges::letOutOfNone);
        sentence("LET OUT: which (what = 0), by how much (1). NONE; BAD.", ComingEdges::letOutBad);
    }

    private static void letOut(NailedYears x, int deed, int which, int much) {
        due("letOut(" + deed + ", 0)", x.letOut(deed, 0), which);
        due("letOut(" + deed + ", 1)", x.letOut(deed, 1), much);
    }

    private static void letOutZeroToFive() {
        NailedYears x = laid("n0,0,4,1;n0,1,5,32;");
        letOut(x, 0, 0, 2);
        letOut(x, 5, 1, 3);
        for (int deed : new int[] {-1, 6, 32, 37, LEAST, MOST}) {
            letOut(x, deed, BAD, BAD);
        }
    }

    private static void letOutOfSeveral() {
        letOut(laid("n0,0,9,1;n0,1,5,1;n0,2,5,1;n0,3,6,1;"), 0, 1, 3);
        letOut(laid("n0,0,3,1;n0,1,3,1;"), 0, 0, 1);
        letOut(laid("n0,0,9,1;n0,1,3,2;"), 0, 0, 7);
        letOut(laid("n0,0,3,1;n0,1,2,1;"), 0, 1, 0);
        letOut(laid("n3,0,3,1;n2,1,4,1;"), 0, 0, 1);
    }

    private static void letOutOfLooseOnes() {
        letOut(laid("n0,0,2,1;n0,1,1,1;"), 0, 0, 0);
        letOut(laid("n0,0,1,1;"), 0, 0, 0);
        NailedYears x = laid("n0,0,3,1;");
        letOut(x, 0, 0, 1);
        x.pull(0, 1);
        letOut(x, 0, 0, 0);
    }

    private static void letOutOfNone() {
        NailedYears x = laid("n0,0,3,62;n0,1,1,1;");
        letOut(x, 0, 1, 0);
        x.pull(1, 1);
        letOut(x, 0, NONE, NONE);
        letOut(x, 1, 0, 1);
        x.pull(0, 3);
        for (int deed = 0; deed <= 5; deed++) {
            letOut(x, deed, NONE, NONE);
        }
    }

    private static void letOutBad() {
        NailedYears x = laid("n0,0,3,1;");
        for (int what : NO_WHAT) {
            due("letOut(0, " + what + ")", x.letOut(0, what), BAD);
            due("letOut(1, " + what + ") of none", x.letOut(1, what), BAD);
        }
        due("letOut(6, 2)", x.letOut(6, 2), BAD);
    }
}
