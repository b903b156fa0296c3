/** The boundaries that the document names for what was, for bells and centuries: terms 4, promises 21 to 30. */
public final class PastEdges extends Checks {
    public static void main(String[] args) {
        from();
        measured();
        kinds();
        damps();
        shaken();
        century();
        kept();
        count();
        end();
    }

    /** Numbers that are no nail where there are two. */
    private static final int[] NO_NAILS = {-1, 2, 8, 9, 32, LEAST, MOST};

    // ---- from

    private static void from() {
        sentence("FROM of a DEED that is in the YEAR of a NAIL", PastEdges::fromOfADeedThatItHas);
        sentence("NAILS (bits) that had it when they were LAID or DRIVEN", PastEdges::fromThoseThatHadIt);
        sentence("that hang together with that one by NAILS in CELLS beside each other", PastEdges::fromThoseThatHang);
        sentence("or in one CELL (OUT ones, too), itself as well.", PastEdges::fromOutOnes);
        sentence("itself as well.", PastEdges::fromItself);
        sentence("FROM, as bits. BAD; NO: its YEAR has it not.", PastEdges::fromBad);
    }

    private static void fromOfADeedThatItHas() {
        NailedYears x = laid("n0,0,5,33;n0,1,5,30;");
        due("the lowest deed", x.from(0, 0), 1);
        due("the highest deed", x.from(0, 5), 1);
        for (int deed = 1; deed <= 4; deed++) {
            due("from(0, " + deed + ")", x.from(0, deed), NO);
            due("from(1, " + deed + ")", x.from(1, deed), 2);
        }
        x.pull(0, 5);
        for (int deed = 0; deed <= 5; deed++) {
            due("an out one has none: from(0, " + deed + ")", x.from(0, deed), NO);
            due("no deeds at all: from(0, " + deed + ")", laid("n0,0,1,0;").from(0, deed), NO);
        }
    }

    private static void fromThoseThatHadIt() {
        NailedYears x = laid("n0,0,2,1;n0,1,2,2;n0,2,2,4;" + QUIET);
        x.pass(1);
        years(x, 3, 7, 7);
        due("what 0 got by mixing", x.from(0, 1), 2);
        due("what 2 got by mixing", x.from(2, 0), 1);
        due("what 2 brought", x.from(1, 2), 4);
        x.drive(0, 3, 5, 36);
        due("laid and driven", x.from(2, 2), 12);
        x.undo();
        due("undone", x.from(2, 2), 4);
        NailedYears all = laid("w3,3;n0,0,5,1;n0,1,5,1;n0,2,5,1;n0,3,5,1;n0,4,5,1;n0,5,5,1;n0,6,5,1;n0,7,5,1;n0,8,5,1;");
        for (int i = 0; i <= 8; i++) {
            due("all nine", all.from(i, 0), 511);
        }
    }

    private static void fromThoseThatHang() {
        NailedYears x = laid("w3,3;n0,0,5,1;n0,1,5,2;n0,2,5,1;n0,5,5,4;n0,8,5,1;n0,6,5,1;");
        due("along and down", x.from(0, 0), 21);
        due("from the other end", x.from(4, 0), 21);
        due("two steps off: not", x.from(5, 0), 32);
        NailedYears rows = laid("w3,2;n0,1,5,1;n0,2,5,1;n0,5,5,1;");
        due("the end of a row is not beside the next one", rows.from(0, 0), 1);
        due("nor from there", rows.from(1, 0), 2);
        NailedYears corner = laid("w3,3;n0,0,5,1;n0,4,5,1;n0,8,5,1;");
        due("corners are not beside each other", corner.from(1, 0), 2);
        NailedYears against = laid("w2,5;n0,4,5,1;n0,3,5,0;n0,2,5,0;n0,1,5,0;n0,0,5,1;");
        due("against the numbers", against.from(0, 0), 17);
        due("along the numbers", against.from(4, 0), 17);
    }

    private static void fromOutOnes() {
        NailedYears x = laid("n0,0,5,1;n0,1,1,1;n0,2,5,1;n0,19,1,1;");
        x.pull(1, 1);
        due("an out one between, and it had it", x.from(0, 0), 7);
        x.pull(3, 1);
        x.drive(0, 19, 5, 1);
        due("in one cell", x.from(4, 0), 24);
        x.pull(4, 5);
        x.drive(0, 19, 5, 1);
        due("three in one cell, two of them out", x.from(5, 0), 56);
        x.drive(0, 1, 3, 2);
        due("in one cell as the one between", x.from(6, 1), 64);
        due("and through it", x.from(0, 0), 7);
    }

    private static void fromItself() {
        due("alone", laid("n0,7,5,1;").from(0, 0), 1);
        NailedYears x = laid("n0,0,2,1;n0,1,2,2;" + QUIET);
        due("itself alone had it", x.from(1, 1), 2);
        x.pass(1);
        due("itself had it not when it was laid", x.from(1, 0), 1);
    }

    private static void fromBad() {
        NailedYears x = laid("n0,0,5,63;n0,1,5,63;");
        for (int none : NO_NAILS) {
            due("from(" + none + ", 0)", x.from(none, 0), BAD);
        }
        for (int none : new int[] {-1, 6, 7, 32, 37, LEAST, MOST}) {
            due("from(0, " + none + ")", x.from(0, none), BAD);
        }
        x.pull(0, 5);
        due("of an out one there is none such either", x.from(0, 6), BAD);
        due("but it is a nail", x.from(0, 5), NO);
    }

    // ---- measured

    private static void measured() {
        sentence("MEASURED (6 at most)", PastEdges::sixMeasured);
        sentence("that a NAIL is k (0 to 9) deep behind t (1 to 30) DAYS from now", PastEdges::measuredNumbers);
        sentence("(now: as it stands when that is asked)", PastEdges::measuredFromWhenItIsAsked);
        sentence("MEASURED: how many. BAD; FULL.", PastEdges::measuredOfOutOnes);
        sentence("Nothing is MEASURED: how many were.", PastEdges::forget);
    }

    private static void sixMeasured() {
        NailedYears x = laid("n0,0,5,1;" + QUIET);
        for (int k = 1; k <= 6; k++) {
            due("measure", x.measure(0, k, k == 6 ? 9 : 5), k);
        }
        due("a seventh", x.measure(0, 7, 5), FULL);
        due("the same once more", x.measure(0, 1, 5), FULL);
        due("count(6)", x.count(6), 6);
        due("the sixth counts", x.kinds(0), 0);
        due("forget()", x.forget(), 6);
        due("room again", x.measure(0, 7, 5), 1);
    }

    private static void measuredNumbers() {
        NailedYears x = laid("n0,0,5,1;n0,1,5,1;");
        for (int none : new int[] {0, -1, 31, 60, 257, LEAST, MOST}) {
            due("measure(0, " + none + ", 1)", x.measure(0, none, 1), BAD);
        }
        for (int none : new int[] {-1, 10, 16, LEAST, MOST}) {
            due("measure(0, 1, " + none + ")", x.measure(0, 1, none), BAD);
        }
        for (int none : NO_NAILS) {
            due("measure(" + none + ", 1, 1)", x.measure(none, 1, 1), BAD);
        }
        due("nothing is measured", x.count(6), 0);
        due("the least", x.measure(0, 1, 0), 1);
        due("the most", x.measure(1, 30, 9), 2);
    }

    private static void measuredFromWhenItIsAsked() {
        NailedYears x = laid("n0,0,9,1;" + dry(5) + "b2;");
        x.measure(0, 1, 8);
        due("no bell on day 1", x.kinds(0), 0);
        due("damp", x.damps(0), 0);
        x.pass(1);
        due("the bell rings on day 2: iron, silver, crooked", x.kinds(0), 19);
        due("any damp up to 9", x.damps(0), 1023);
        x.pass(1);
        due("8 deep, no bell on day 3: all", x.kinds(0), 31);
        x.undo();
        x.undo();
        due("undone as well", x.kinds(0), 0);
        due("what is measured stays", x.count(6), 1);
    }

    private static void measuredOfOutOnes() {
        NailedYears x = laid("n0,0,5,1;");
        x.pull(0, 5);
        due("an out one", x.measure(0, 1, 0), 1);
        for (int k = 2; k <= 6; k++) {
            due("the same again", x.measure(0, 1, 0), k);
        }
        due("a seventh", x.measure(0, 1, 0), FULL);
        due("a seventh that is none", x.measure(1, 1, 0), BAD);
        due("a seventh that is none", x.measure(0, 31, 0), BAD);
        due("a seventh that is none", x.measure(0, 1, 10), BAD);
        due("measuring is not undone", x.count(7), 1);
    }

    private static void forget() {
        NailedYears x = laid("n0,0,5,1;" + QUIET);
        due("none", x.forget(), 0);
        for (int k = 1; k <= 6; k++) {
            x.measure(0, 1, 9);
        }
        due("kinds(0)", x.kinds(0), 0);
        due("six", x.forget(), 6);
        due("none any more", x.forget(), 0);
        due("count(6)", x.count(6), 0);
        due("kinds(0) then", x.kinds(0), 31);
        due("damps(0) then", x.damps(0), 1023);
        x.measure(0, 1, 5);
        due("what was measured ahead of it binds no more", x.kinds(0), 31);
        due("nor by its days", x.damps(0), 1023);
    }

    // ---- kinds

    private static void kinds() {
        sentence("those (bits) by which, were it of that one from now on, as deep as it is", PastEdges::kindsAsDeepAsItIs);
        sentence("all that is MEASURED of it would be so.", PastEdges::kindsByAllOfIt);
        sentence("KINDS, as bits. BAD; NO: OUT.", PastEdges::kindsRefused);
    }

    private static void kindsAsDeepAsItIs() {
        NailedYears x = laid("n0,0,9,1;" + dry(5) + "b1;");
        int[] depths = {9, 8, 7, 6, 0};
        int[] kinds = {8, 19, 4, 0, 0};
        for (int k = 0; k < depths.length; k++) {
            x.measure(0, 1, depths[k]);
            due(depths[k] + " behind 1 day", x.kinds(0), kinds[k]);
            x.forget();
        }
        x.measure(0, 30, 0);
        due("out behind 30 days: all but bent", x.kinds(0), 23);
        due("its kind stays", x.nail(0, 0), 0);
        deep(x, 9);
        NailedYears last = laid("n2,0,4,1;d0,1;b30;");
        last.pull(0, 3);
        last.measure(0, 9, 1);
        due("1 deep behind 9 days by all", last.kinds(0), 31);
        last.measure(0, 10, 0);
        due("rusted out behind 10: all but silver", last.kinds(0), 29);
    }

    private static void kindsByAllOfIt() {
        NailedYears x = laid("n0,0,9,1;n0,1,9,1;" + dry(5) + "b1;");
        due("nothing measured", x.kinds(0), 31);
        x.measure(1, 1, 0);
        due("of the other alone", x.kinds(0), 31);
        due("of the other", x.kinds(1), 0);
        x.measure(0, 1, 8);
        due("one", x.kinds(0), 19);
        x.measure(0, 1, 8);
        due("the same again", x.kinds(0), 19);
        x.measure(0, 2, 7);
        due("two", x.kinds(0), 19);
        x.measure(0, 3, 9);
        due("not all", x.kinds(0), 0);
    }

    private static void kindsRefused() {
        NailedYears x = laid("n0,0,9,1;n0,1,9,1;");
        for (int none : NO_NAILS) {
            due("kinds(" + none + ")", x.kinds(none), BAD);
        }
        x.measure(1, 1, 0);
        x.pull(1, 9);
        due("out", x.kinds(1), NO);
        due("the other", x.kinds(0), 31);
    }

    // ---- damps

    private static void damps() {
        sentence("those D (bits, 0 to 9) by which, were it so damp from now on", PastEdges::dampsZeroToNine);
        sentence("all that is MEASURED of NAILS in it", PastEdges::dampsByAllInIt);
        sentence("(of OUT ones: that were in it)", PastEdges::dampsOfOutOnes);
        sentence("DAMP, as bits. BAD.", PastEdges::dampsBad);
    }

    private static void dampsZeroToNine() {
        NailedYears x = laid("n0,0,9,1;" + QUIET);
        due("nothing measured", x.damps(0), 1023);
        for (int damp = 0; damp <= 9; damp++) {
            x.measure(0, 10, 9 - damp);
            due(9 - damp + " deep behind 10 days", x.damps(0), 1 << damp);
            x.forget();
        }
        x.measure(0, 30, 1);
        due("8 less in 30 days", x.damps(0), 0);
        x.forget();
        x.measure(0, 1, 9);
        due("9 of rust at most in 1 day", x.damps(0), 1023);
        due("its damp stays", x.damp(0), 0);
        NailedYears rusty = laid("n0,0,9,1;d0,1;b30;");
        rusty.pass(1);
        rusty.measure(0, 1, 8);
        due("from the rust that there is: 9 alone", rusty.damps(0), 512);
    }

    private static void dampsByAllInIt() {
        NailedYears x = laid("w2,3;n0,0,9,1;n0,3,9,1;n0,1,9,1;" + dry(3) + "b30;");
        x.measure(0, 5, 8);
        due("10 to 19 of rust in 5 days", x.damps(0), 12);
        x.measure(1, 4, 8);
        due("and 10 to 19 in 4 days", x.damps(0), 8);
        due("of the next column nothing is measured", x.damps(1), 1023);
        due("no nail in it", x.damps(2), 1023);
        x.measure(2, 1, 0);
        due("not so by any", x.damps(1), 0);
        due("the first column as it was", x.damps(0), 8);
        x.measure(0, 5, 9);
        due("not both", x.damps(0), 0);
    }

    private static void dampsOfOutOnes() {
        NailedYears x = laid("w2,3;n0,1,9,1;n0,4,9,1;" + dry(3) + "b30;");
        x.measure(0, 1, 0);
        due("while it holds", x.damps(1), 0);
        x.pull(0, 9);
        due("out, 0 deep as measured", x.damps(1), 1023);
        x.measure(0, 30, 1);
        due("out, and never 1 deep", x.damps(1), 0);
        due("not of another column", x.damps(0), 1023);
    }

    private static void dampsBad() {
        NailedYears x = laid("w2,3;n0,1,9,1;");
        due("the last column", x.damps(2), 1023);
        for (int none : new int[] {-1, 3, 4, 5, 6, LEAST, MOST}) {
            due("damps(" + none + ")", x.damps(none), BAD);
        }
        NailedYears broad = laid("w2,6;n0,5,9,1;");
        broad.measure(0, 1, 0);
        due("the sixth column", broad.damps(5), 0);
        due("a seventh", broad.damps(6), BAD);
    }

    // ---- shaken

    private static void shaken() {
        sentence("on each of n (0 to 8) DAYS from now", PastEdges::shakenZeroToEightDays);
        sentence("the BELL rings by x (0 to 10) of ten", PastEdges::shakenByZeroToTen);
        sentence("(in place of each B-th)", PastEdges::shakenInPlaceOfB);
        sentence("the chance that a NAIL is 3 deep or more behind them, in lowest terms.", PastEdges::shakenInLowestTerms);
        sentence("SHAKEN: above (part = 0), below (1). BAD; NO: OUT.", PastEdges::shakenRefused);
    }

    private static void shaken(NailedYears x, int i, int n, int of, int above, int below) {
        String call = "shaken(" + i + ", " + n + ", " + of + ", ";
        due(call + "0)", x.shaken(i, n, of, 0), above);
        due(call + "1)", x.shaken(i, n, of, 1), below);
    }

    private static void shakenZeroToEightDays() {
        NailedYears x = laid("n1,0,3,1;n1,1,2,1;n1,2,9,1;" + QUIET);
        shaken(x, 0, 0, 5, 1, 1);
        shaken(x, 1, 0, 5, 0, 1);
        shaken(x, 0, 1, 5, 1, 2);
        shaken(x, 0, 8, 5, 1, 256);
        shaken(x, 0, 8, 1, 43046721, 100000000);
        shaken(x, 0, 8, 9, 1, 100000000);
        // All but seven or eight bells of 8.
        shaken(x, 2, 8, 5, 256 - 9, 256);
        for (int none : new int[] {-1, 9, 10, 32, 256, LEAST, MOST}) {
            shaken(x, 0, none, 5, BAD, BAD);
        }
    }

    private static void shakenByZeroToTen() {
        NailedYears x = laid("n1,0,3,1;n2,1,4,1;" + QUIET);
        int[] above = {1, 9, 4, 7, 3, 1, 2, 3, 1, 1, 0};
        int[] below = {1, 10, 5, 10, 5, 2, 5, 10, 5, 10, 1};
        for (int of = 0; of <= 10; of++) {
            shaken(x, 0, 1, of, above[of], below[of]);
            shaken(x, 1, 1, of, above[of], below[of]);
        }
        shaken(x, 0, 8, 0, 1, 1);
        shaken(x, 0, 8, 10, 0, 1);
        for (int none : new int[] {-1, 11, 100, 256, LEAST, MOST}) {
            shaken(x, 0, 1, none, BAD, BAD);
        }
    }

    private static void shakenInPlaceOfB() {
        NailedYears each = laid("n1,0,3,1;" + dry(5) + "b1;");
        shaken(each, 0, 8, 0, 1, 1);
        NailedYears never = laid("n1,0,9,1;" + QUIET);
        shaken(never, 0, 6, 10, 1, 1);
        shaken(never, 0, 7, 10, 0, 1);
        NailedYears second = laid("n1,0,4,1;" + dry(5) + "b2;");
        shaken(second, 0, 2, 5, 3, 4);
    }

    private static void shakenInLowestTerms() {
        NailedYears x = laid("n1,0,4,1;n2,1,4,1;n3,2,3,1;n1,3,2,1;" + QUIET);
        shaken(x, 0, 4, 5, 5, 16);
        shaken(x, 0, 2, 1, 99, 100);
        shaken(x, 0, 2, 9, 19, 100);
        shaken(x, 0, 8, 1, 81310473, 100000000);
        shaken(x, 1, 2, 3, 49, 100);
        shaken(x, 1, 2, 8, 1, 25);
        shaken(x, 2, 8, 7, 1, 1);
        shaken(x, 3, 8, 7, 0, 1);
        shaken(x, 3, 8, 0, 0, 1);
        // By rust it is 2 deep behind the second day, whether the bell rings or not.
        NailedYears rusty = laid("n3,0,3,1;d0,5;");
        shaken(rusty, 0, 1, 5, 1, 1);
        shaken(rusty, 0, 2, 5, 0, 1);
    }

    private static void shakenRefused() {
        NailedYears x = laid("n0,0,3,1;n0,1,3,1;");
        for (int none : NO_NAILS) {
            shaken(x, none, 0, 0, BAD, BAD);
        }
        for (int part : new int[] {-1, 2, 256, LEAST, MOST}) {
            due("shaken(0, 1, 1, " + part + ")", x.shaken(0, 1, 1, part), BAD);
        }
        x.pull(0, 3);
        shaken(x, 0, 0, 0, NO, NO);
        shaken(x, 0, 8, 10, NO, NO);
        shaken(x, 0, 9, 10, BAD, BAD);
        shaken(x, 0, 8, 11, BAD, BAD);
        due("an out one, a part that is none", x.shaken(0, 8, 10, 2), BAD);
    }

    // ---- centuries

    private static void century() {
        sentence("A CENTURY by z (0 to 9999)", PastEdges::centuriesOfZ);
        sentence("of n (1 to 60) DAYS from now on", PastEdges::centuriesOfOneToSixtyDays);
        sentence("DAMP of COLUMN c on the k-th (0 first) is DRAW modulo 10", PastEdges::centuryOfDamp);
        sentence("if (DRAW by 16, cut) modulo 4 is 0 for COLUMN 0", PastEdges::centuryOfBells);
        sentence("DRAW being ((x times x) modulo 65521) by 8, cut", PastEdges::centuryBeyondAnInt);
        sentence("x 7919 z, 6151 k, 331 c and 1 together", PastEdges::centuryByDayAndColumn);
        sentence("how many NAILS come OUT; how many are LOOSE then.", PastEdges::centuryOut);
        sentence("A CENTURY: OUT (what = 0), LOOSE (1). BAD.", PastEdges::centuryBad);
    }

    private static void century(NailedYears x, int z, int n, int out, int loose) {
        due("century(" + z + ", " + n + ", 0)", x.century(z, n, 0), out);
        due("century(" + z + ", " + n + ", 1)", x.century(z, n, 1), loose);
    }

    private static void centuriesOfZ() {
        NailedYears x = laid("n1,0,3,1;" + QUIET);
        // The bell rings on the first three days.
        century(x, 0, 1, 0, 1);
        century(x, 0, 2, 0, 1);
        century(x, 0, 3, 1, 0);
        // On days 1, 3 and 8.
        century(x, 9999, 1, 0, 1);
        century(x, 9999, 7, 0, 1);
        century(x, 9999, 8, 1, 0);
        // Not on day 1.
        century(x, 9998, 1, 0, 0);
        for (int none : new int[] {-1, 10000, 65536, LEAST, MOST}) {
            century(x, none, 1, BAD, BAD);
        }
    }

    private static void centuriesOfOneToSixtyDays() {
        NailedYears x = laid("n1,0,9,1;" + QUIET);
        // Eight bells in 59 days, a ninth on the 60th.
        for (int z : new int[] {82, 4019, 9593}) {
            century(x, z, 59, 0, 1);
            century(x, z, 60, 1, 0);
        }
        century(x, 0, 1, 0, 0);
        for (int none : new int[] {0, -1, 61, 90, 257, LEAST, MOST}) {
            century(x, 0, none, BAD, BAD);
        }
        due("no day goes by", x.count(4), 0);
    }

    private static void centuryOfDamp() {
        // By z 2 no bell on three days; columns 0 to 5: 1 3 5 7 9 0, then 0 9 9 8 7 6, then 4 1 8 5 1 8.
        NailedYears x = laid("w2,6;n3,0,1,1;n3,1,1,1;n3,2,1,1;n3,3,1,1;n3,4,1,1;n3,5,1,1;d0,9;d1,9;d5,9;b1;");
        century(x, 2, 1, 0, 6);
        century(x, 2, 2, 4, 2);
        century(x, 2, 3, 5, 1);
        due("the damp of now stays", x.damp(0), 9);
        // By z 9999 column 5: 6, 7, 4, 7; column 1: 0, 1, 8, 1.
        NailedYears last = laid("w2,6;n3,5,3,1;n3,1,3,1;b1;");
        century(last, 9999, 1, 0, 0);
        century(last, 9999, 2, 0, 1);
        century(last, 9999, 3, 0, 1);
        century(last, 9999, 4, 0, 2);
    }

    private static void centuryOfBells() {
        // Ring or not as they fall, whatever B says: by z 1 not on day 1 (22803 by 8 is 2850, by 16 is 178).
        for (String bell : new String[] {"b1;", "b2;", "b30;"}) {
            NailedYears x = laid("n1,0,3,1;n1,1,1,1;" + bell);
            century(x, 0, 1, 1, 1);
            century(x, 1, 1, 0, 1);
        }
        // COLUMN 0 alone says it, though there is no nail in it.
        century(laid("n1,4,3,1;"), 0, 1, 0, 1);
        century(laid("n1,4,3,1;"), 9998, 1, 0, 0);
    }

    private static void centuryBeyondAnInt() {
        NailedYears x = laid("n1,0,9,1;n1,1,8,1;n1,2,7,1;n1,3,6,1;n1,4,5,1;n1,5,4,1;n1,6,3,1;n1,7,2,1;n1,8,1,1;" + QUIET);
        // Bells by z 9999: 1, 2, 2, 3 in 1, 3, 7, 8 days; 5 in 20; 7 in 30; 8 in 31; 9 in 34.
        int[] days = {1, 3, 7, 8, 20, 30, 31, 34};
        int[] bells = {1, 2, 2, 3, 5, 7, 8, 9};
        for (int k = 0; k < days.length; k++) {
            century(x, 9999, days[k], bells[k], Math.min(2, 9 - bells[k]));
        }
    }

    /** A bent one 9 deep is out by 90 of damp. */
    private static void centuryByDayAndColumn() {
        NailedYears first = laid("w2,6;n3,0,9,1;");
        NailedYears last = laid("w2,6;n3,5,9,1;");
        int[][] days = {{9999, 20, 21}, {0, 22, 22}, {82, 15, 17}};
        for (int[] z : days) {
            due("column 0, the day ahead", first.century(z[0], z[1] - 1, 0), 0);
            due("column 0", first.century(z[0], z[1], 0), 1);
            due("column 5, the day ahead", last.century(z[0], z[2] - 1, 0), 0);
            due("column 5", last.century(z[0], z[2], 0), 1);
        }
        due("the driest: column 0, behind 29", first.century(8125, 29, 0), 0);
        due("the driest: column 0, behind 30", first.century(8125, 30, 0), 1);
        due("the driest: column 5, behind 29", last.century(9627, 29, 0), 0);
        due("the driest: column 5, behind 30", last.century(9627, 30, 0), 1);
    }

    private static void centuryOut() {
        NailedYears x = laid("n1,0,1,1;n1,1,1,1;n1,2,3,1;n1,3,9,1;" + QUIET);
        century(x, 0, 1, 2, 1);
        x.pull(0, 1);
        due("out now", x.count(2), 1);
        century(x, 0, 1, 1, 1);
        x.pull(1, 1);
        x.pull(2, 3);
        century(x, 0, 1, 0, 0);
        x.pull(3, 9);
        century(x, 0, 60, 0, 0);
        due("nine at most", allShoes().century(0, 2, 0), 9);
        due("none loose then", allShoes().century(0, 2, 1), 0);
    }

    private static NailedYears allShoes() {
        return laid("n2,0,4,1;n2,1,4,1;n2,2,4,1;n2,3,4,1;n2,4,4,1;n2,5,4,1;n2,6,4,1;n2,7,4,1;n2,8,4,1;");
    }

    private static void centuryBad() {
        NailedYears x = laid("n1,0,3,1;" + QUIET);
        for (int what : new int[] {-1, 2, 256, LEAST, MOST}) {
            due("century(0, 1, " + what + ")", x.century(0, 1, what), BAD);
        }
        due("century(10000, 61, 2)", x.century(10000, 61, 2), BAD);
    }

    // ---- kept

    private static void kept() {
        sentence("KEPT is all as it stands, but what is MEASURED and THE TEXT", PastEdges::keptIsAllAsItStands);
        sentence("(these stay by back(), behind which nothing can be UNDONE)", PastEdges::staysByBack);
        sentence("behind which nothing can be UNDONE): 2 at most.", PastEdges::keptTwoAtMost);
        sentence("KEPT: how many. FULL.", PastEdges::keptFull);
        sentence("As KEPT last (it is KEPT no more then): how many are left; nothing is UNDONE then. NO.", PastEdges::back);
    }

    private static void keptIsAllAsItStands() {
        NailedYears x = laid("n0,0,5,1;n0,1,2,2;n0,2,2,4;d0,3;d1,0;d2,0;b30;");
        x.pass(2);
        x.pull(2, 2);
        due("keep()", x.keep(), 1);
        x.pass(2);
        x.hammer(0);
        x.drive(1, 2, 1, 8);
        x.pull(1, 2);
        due("back()", x.back(), 0);
        due("count(1)", x.count(1), 3);
        due("count(2)", x.count(2), 1);
        due("count(4)", x.count(4), 2);
        stands(x, 0, 5, 6, 1);
        stands(x, 1, 2, 0, 6);
        stands(x, 2, 0, 0, 0);
        due("cell(2)", x.cell(2), NONE);
        due("what it had when it was laid", x.from(1, 2), 4);
        same("what stands behind back()", everything(givenBack(true)), everything(givenBack(false)));
    }

    private static NailedYears givenBack(boolean changed) {
        NailedYears x = laid("w2,5;n0,0,2,17;n0,2,9,16;n0,6,1,2;d0,1;d1,3;d3,9;b30;");
        x.pass(1);
        x.keep();
        if (changed) {
            x.drive(0, 1, 2, 63);
            x.drive(4, 5, 9, 63);
            x.pass(9);
            x.pull(1, 2);
        }
        x.back();
        return x;
    }

    private static void staysByBack() {
        NailedYears x = laid("n0,0,5,1;" + QUIET);
        x.measure(0, 1, 5);
        x.keep();
        x.measure(0, 1, 9);
        x.write('b');
        x.pass(1);
        x.back();
        due("count(6)", x.count(6), 2);
        due("kinds(0)", x.kinds(0), 0);
        due("count(9)", x.count(9), 9 + QUIET.length() + 1);
        due("count(7)", x.count(7), 0);
        due("undo()", x.undo(), NO);
        NailedYears less = laid("n0,0,5,1;" + QUIET);
        less.measure(0, 1, 5);
        less.keep();
        less.forget();
        less.wipe();
        less.back();
        due("forgotten stays forgotten", less.count(6), 0);
        due("wiped stays wiped", less.count(9), 0);
    }

    private static void keptTwoAtMost() {
        NailedYears x = laid("n1,0,9,1;" + QUIET);
        due("one", x.keep(), 1);
        x.pass(1);
        due("two", x.keep(), 2);
        x.pass(1);
        due("a third", x.keep(), FULL);
        due("count(8)", x.count(8), 2);
        due("back()", x.back(), 1);
        due("the second, not the third", x.count(4), 1);
        due("two again", x.keep(), 2);
        due("back()", x.back(), 1);
        due("back()", x.back(), 0);
        due("the first", x.count(4), 0);
    }

    private static void keptFull() {
        NailedYears x = new NailedYears();
        due("count(8)", x.count(8), 0);
        due("keep()", x.keep(), 1);
        due("the same again", x.keep(), 2);
        due("a third", x.keep(), FULL);
        due("a fourth", x.keep(), FULL);
        x.pass(1);
        due("keeping takes nothing from what can be undone", x.undo(), 0);
        due("undoing takes nothing from what is kept", x.count(8), 2);
        due("keeping itself is not undone", x.undo(), NO);
    }

    private static void back() {
        NailedYears x = laid("n1,0,9,1;" + QUIET);
        due("none kept", x.back(), NO);
        x.pass(3);
        due("still none", x.back(), NO);
        due("which undoes nothing", x.count(7), 1);
        x.keep();
        x.pass(4);
        x.keep();
        x.pass(5);
        due("the last", x.back(), 1);
        due("count(4)", x.count(4), 7);
        due("undo()", x.undo(), NO);
        x.pass(6);
        due("what comes then can be undone", x.undo(), 0);
        due("the first", x.back(), 0);
        due("count(4)", x.count(4), 3);
        due("undo()", x.undo(), NO);
        due("none left", x.back(), NO);
        due("count(8)", x.count(8), 0);
    }

    // ---- count

    private static void count() {
        sentence("4 DAYS gone by, 5 B, 6 MEASURED, 7 that can be UNDONE, 8 KEPT, 9 letters of THE TEXT. BAD.", PastEdges::countFew);
        sentence("How many: 0 CELLS, 1 NAILS (OUT ones, too), 2 OUT, 3 LOOSE", PastEdges::countMany);
    }

    private static void counts(NailedYears x, int... wants) {
        for (int what = 0; what < wants.length; what++) {
            due("count(" + what + ")", x.count(what), wants[what]);
        }
        for (int none : new int[] {-1, 10, 11, 256, LEAST, MOST}) {
            due("count(" + none + ")", x.count(none), BAD);
        }
    }

    private static void countFew() {
        NailedYears x = laid("w2,2;n0,0,3,0;b1;");
        x.wipe();
        counts(x, 4, 1, 0, 0, 0, 1, 0, 0, 0, 0);
        counts(new NailedYears(), 20, 6, 0, 1, 0, 5, 0, 0, 0, 0);
    }

    private static void countMany() {
        NailedYears x = laid("w6,6;n0,0,1,0;n0,1,2,0;n0,2,1,0;n0,3,2,0;n0,4,1,0;n0,5,2,0;n0,6,1,0;n0,7,2,0;n0,8,1,0;b30;");
        counts(x, 36, 9, 0, 9, 0, 30, 0, 0, 0, 90);
        for (int i = 0; i < 9; i++) {
            x.pull(i, 1 + i % 2);
        }
        x.keep();
        x.keep();
        for (int k = 0; k < 6; k++) {
            x.measure(k, 1, 0);
        }
        x.pass(30);
        x.wipe();
        writeAll(x, repeated(";", 200));
        counts(x, 36, 9, 9, 0, 30, 30, 6, 8, 2, 200);
    }
}
