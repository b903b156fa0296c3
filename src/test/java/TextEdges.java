/** The boundaries that the document names for texts, walls and what is asked of them: terms 1, promises 1 to 8. */
public final class TextEdges extends Checks {
    private static final String FIRST =
        "w4,5;n0,0,6,1;n1,1,5,2;n2,6,4,12;n3,7,2,16;n4,12,7,33;n0,13,3,8;d0,2;d1,3;d2,4;b5;";

    public static void main(String[] args) {
        texts();
        walls();
        nails();
        dampAndBell();
        faultAndLay();
        promises();
        end();
    }

    // ---- texts

    private static void texts() {
        sentence("A TEXT is letters (200 at most)", TextEdges::twoHundredLetters);
        sentence("A TEXT is letters (200 at most)", TextEdges::aFullTextIsReadToItsEnd);
        sentence("ITEMS one behind the other", TextEdges::nothingBetweenItems);
        sentence("each a letter, then numbers", TextEdges::eachALetterThenNumbers);
        sentence("numbers (one or two figures)", TextEdges::oneOrTwoFigures);
        sentence("parted by ,", TextEdges::partedByCommas);
        sentence("and a ; behind the last one", TextEdges::endedBySemicolon);
        sentence("wR,C a WALL", () -> numbersOf("w4,5", "w4", "w4,5,1"));
        sentence("nK,X,D,Y a NAIL", () -> numbersOf("n0,0,1,0", "n0,0,1", "n0,0,1,0,0"));
        sentence("dC,D COLUMN C", () -> numbersOf("d0,1", "d0", "d0,1,1"));
        sentence("bB the BELL", () -> numbersOf("b5", "b", "b5,5"));
    }

    private static void twoHundredLetters() {
        NailedYears x = new NailedYears();
        for (int k = 1; k <= 200; k++) {
            due("write of letter " + k, x.write('b'), k);
        }
        due("write of letter 201", x.write('b'), FULL);
        due("write of letter 202", x.write(';'), FULL);
        due("count(9)", x.count(9), 200);
    }

    private static void aFullTextIsReadToItsEnd() {
        String most = "n0,0,1,1;d0,3;" + repeated("b7;", 61);
        NailedYears x = written(most + "b9;");
        due("count(9)", x.count(9), 200);
        due("fault()", x.fault(), NONE);
        due("lay()", x.lay(), 1);
        due("the last item counts", x.count(5), 9);
        fault(most + "b9,", 197);
        fault(most + "b99", 197);
        fault(repeated("b7;", 65) + "x;b1;", 195);
    }

    private static void nothingBetweenItems() {
        noFault("", "b5;b6;", "d0,1;b6;d1,1;");
        faultAtOnce(";", ";b5;", " b5;", ",b5;");
        fault("b5;;", 3);
        fault("b5; ", 3);
        fault("b5; b6;", 3);
        fault("b5;,b6;", 3);
        fault("b5;;b6;", 3);
    }

    /** Beside the letters and figures of ASCII there are others. */
    private static void eachALetterThenNumbers() {
        faultAtOnce("5;", "0,1;", "W4,5;", "N0,0,1,0;", "D0,1;", "B5;", "bb5;", "wn4,5;");
        faultAtOnce("v4,5;", "x4,5;", "m0,0,1,0;", "o0,0,1,0;", "c0,1;", "e0,1;", "a5;", "c5;", " 5;", "~5;");
        faultAtOnce("b/;", "b:;", "b1/;", "b1:;", "b-1;", "b+1;", "b 1;", "b1 ;", "bb;", "b1b;");
        for (String other : new String[] {"x", "-", " ", "/", ":", "x5", "-1"}) {
            faultAtOnce("b" + other + ";", "d" + other + ",1;", "d0," + other + ";", "w" + other + ",5;", "w4," + other + ";");
            faultAtOnce("n" + other + ",0,1,0;", "n0," + other + ",1,0;", "n0,0," + other + ",0;", "n0,0,1," + other + ";");
        }
    }

    private static void oneOrTwoFigures() {
        noFault("b5;", "b05;", "b15;", "w04,05;", "n00,00,01,00;", "n04,09,09,07;", "d04,09;");
        faultAtOnce("b;", "b005;", "b015;", "b100;", "w004,5;", "w4,005;", "n0,0,1,000;", "n000,0,1,0;", "d0,001;");
        faultAtOnce("b00;", "b0;", "w00,5;");
        due("05 is 5", laid("n0,0,1,0;b05;").count(5), 5);
        due("15 is 15", laid("n0,0,1,0;b15;").count(5), 15);
        due("20 is 20", laid("n0,0,1,0;b20;").count(5), 20);
    }

    private static void partedByCommas() {
        noFault("w4,5;");
        faultAtOnce("w4.5;", "w4 5;", "w4,,5;", "w,4,5;", "w4,5,;", "w45;", "w4;5;", "w4, 5;", "w4 ,5;", "w,;", "w4,;");
        faultAtOnce("n0,0,1.0;", "n0,0,1,,0;", "n0,0,1,0,;", "b,5;", "b5,;");
    }

    private static void endedBySemicolon() {
        noFault("w4,5;", "n0,0,1,0;", "d0,1;", "b5;");
        faultAtOnce("w4,5", "n0,0,1,0", "d0,1", "b5", "b5:", "b5.", "b5,", "b", "w4,", "n0,0,1", "n");
        fault("b5;b6", 3);
        fault("w4,5;n0,0,1,0", 5);
    }

    private static void numbersOf(String item, String fewer, String more) {
        fault(item + ";", NONE);
        fault(fewer + ";", 0);
        fault(more + ";", 0);
        fault(more + ",1,1,1;", 0);
        fault(item + ";" + fewer + ";", item.length() + 1);
        fault(item + ";" + more + ";", item.length() + 1);
    }

    // ---- walls

    private static void walls() {
        sentence("a WALL of R rows of C CELLS (2 to 6 each;", TextEdges::rowsTwoToSix);
        sentence("a WALL of R rows of C CELLS (2 to 6 each;", TextEdges::cellsOfARowTwoToSix);
        sentence("4, 5 without;", TextEdges::fourAndFiveWithout);
        sentence("no other ITEM ahead of it but w)", TextEdges::nothingAheadOfAWall);
        sentence("CELL 0 is the first of the first row, then along it, row by row", TextEdges::cellsGoRowByRow);
    }

    private static void rowsTwoToSix() {
        noFault("w2,4;", "w6,4;", "w3,4;", "w02,4;");
        faultAtOnce("w1,4;", "w0,4;", "w7,4;", "w10,4;", "w12,4;", "w99,4;");
        due("2 rows of 4", laid("w2,4;n0,7,1,0;").count(0), 8);
        due("6 rows of 4", laid("w6,4;n0,23,1,0;").count(0), 24);
        fault("w2,4;n0,8,1,0;", 5);
        fault("w6,4;n0,24,1,0;", 5);
    }

    private static void cellsOfARowTwoToSix() {
        noFault("w4,2;", "w4,6;", "w4,3;", "w2,2;", "w6,6;");
        faultAtOnce("w4,1;", "w4,0;", "w4,7;", "w4,10;", "w4,12;", "w4,99;", "w1,1;", "w7,7;");
        NailedYears narrow = laid("w6,2;n0,11,1,0;");
        due("6 rows of 2", narrow.count(0), 12);
        due("its last column", narrow.damp(1), 1);
        due("behind its last column", narrow.damp(2), BAD);
        NailedYears broad = laid("w2,6;n0,11,1,0;");
        due("2 rows of 6", broad.count(0), 12);
        due("its last column", broad.damp(5), 1);
        due("behind its last column", broad.damp(6), BAD);
        due("the smallest", laid("w2,2;n0,3,1,0;").count(0), 4);
        due("the largest", laid("w6,6;n0,35,1,0;").count(0), 36);
    }

    private static void fourAndFiveWithout() {
        NailedYears x = laid("n0,19,1,0;");
        due("count(0)", x.count(0), 20);
        due("its last cell", x.cell(19), 0);
        due("behind its last cell", x.cell(20), BAD);
        due("its last column", x.damp(4), 1);
        due("behind its last column", x.damp(5), BAD);
        fault("n0,20,1,0;", 0);
        NailedYears again = laid("w2,2;n0,0,1,0;");
        again.wipe();
        writeAll(again, "n0,19,1,0;");
        due("without, behind another wall", again.lay(), 1);
        due("the other wall's cells are gone", again.count(0), 20);
    }

    private static void nothingAheadOfAWall() {
        noFault("w2,2;w3,4;", "w4,5;w4,5;w4,5;", "w2,2;w6,6;n0,35,1,0;");
        fault("b5;w4,5;", 3);
        fault("d0,1;w4,5;", 5);
        fault("n0,0,1,0;w4,5;", 9);
        fault("w4,5;b5;w4,5;", 8);
        fault("w4,5;d0,1;w4,5;", 10);
        fault("w2,2;n0,0,1,0;w2,2;", 14);
        fault("w6,6;w2,2;n0,4,1,0;", 10);
        due("of several the last", laid("w2,2;w3,4;n0,11,1,0;").count(0), 12);
    }

    private static void cellsGoRowByRow() {
        NailedYears x = laid("w3,4;n0,0,5,0;n0,3,5,0;n0,4,5,0;n0,7,5,0;n0,8,5,0;n0,11,5,0;d0,1;d1,0;d2,0;d3,2;b30;");
        x.pass(1);
        rust(x, 1, 2, 1, 2, 1, 2);
        due("the first", x.cell(0), 0);
        due("the last of the first row", x.cell(3), 1);
        due("the first of the second row", x.cell(4), 2);
        due("the last of all", x.cell(11), 5);
    }

    // ---- nails

    private static void nails() {
        sentence("a NAIL of KIND K (0 IRON, 1 SILVER, 2 HORSESHOE, 3 BENT, 4 CROOKED)", TextEdges::kindsOfNails);
        sentence("in CELL X (where there is none)", TextEdges::inACellWhereThereIsNone);
        sentence("D (1 to 9) deep", TextEdges::oneToNineDeep);
        sentence("whose YEAR has DEEDS Y (0 to 63, as bits)", TextEdges::deedsOfAYear);
        sentence("9 at most, 0, 1, ..", TextEdges::nineAtMost);
        sentence("(a HORSESHOE 4 deep at most)", TextEdges::horseshoeFourDeep);
    }

    private static void kindsOfNails() {
        for (int kind = 0; kind <= 4; kind++) {
            due("nail(0, 0)", laid("n" + kind + ",0,1,0;").nail(0, 0), kind);
        }
        faultAtOnce("n5,0,1,0;", "n9,0,1,0;", "n10,0,1,0;", "n99,0,1,0;");
    }

    private static void inACellWhereThereIsNone() {
        noFault("n0,0,1,0;", "n0,19,1,0;", "n0,0,1,0;n0,1,1,0;", "w2,2;n0,3,1,0;", "w6,6;n0,35,1,0;");
        faultAtOnce("n0,20,1,0;", "n0,99,1,0;");
        fault("w2,2;n0,4,1,0;", 5);
        fault("w6,6;n0,36,1,0;", 5);
        fault("n0,0,1,0;n0,0,1,0;", 9);
        fault("n0,0,1,0;n1,00,9,1;", 9);
        fault("n0,19,1,0;n0,5,1,0;n0,19,1,0;", 19);
    }

    private static void oneToNineDeep() {
        for (int kind = 0; kind <= 4; kind++) {
            String nail = "n" + kind + ",0,";
            noFault(nail + "1,0;", nail + "01,0;");
            faultAtOnce(nail + "0,0;", nail + "00,0;", nail + "10,0;", nail + "99,0;");
            if (kind != 2) {
                fault(nail + "9,0;", NONE);
                due("9 deep", laid(nail + "9,0;").nail(0, 2), 9);
            }
            due("1 deep", laid(nail + "1,0;").nail(0, 2), 1);
        }
    }

    private static void deedsOfAYear() {
        noFault("n0,0,1,0;", "n0,0,1,63;", "n0,0,1,00;");
        faultAtOnce("n0,0,1,64;", "n0,0,1,99;");
        due("none", laid("n0,0,1,0;").nail(0, 4), 0);
        NailedYears all = laid("n0,0,3,63;");
        due("all", all.nail(0, 4), 63);
        for (int deed = 0; deed <= 5; deed++) {
            due("of all letOut(" + deed + ", 0)", all.letOut(deed, 0), 0);
            due("alone letOut(" + deed + ", 0)", laid("n0,0,3," + (1 << deed) + ";").letOut(deed, 0), 0);
            due("the others letOut(" + deed + ", 0)", laid("n0,0,3," + (63 - (1 << deed)) + ";").letOut(deed, 0), NONE);
        }
    }

    private static String nailsInCells(int from, int to) {
        StringBuilder text = new StringBuilder();
        for (int x = from; x <= to; x++) {
            text.append("n0,").append(x).append(",1,0;");
        }
        return text.toString();
    }

    private static void nineAtMost() {
        noFault(nailsInCells(0, 7), nailsInCells(0, 8), nailsInCells(0, 8) + "d0,1;b5;");
        fault(nailsInCells(0, 9), 81);
        fault(nailsInCells(0, 8) + "b5;n0,9,1,0;", 84);
        due("ten", written(nailsInCells(0, 9)).lay(), NO);
        due("one", laid("n0,7,1,0;").count(1), 1);
        NailedYears x = laid("n0,8,1,0;n0,7,1,0;n0,6,1,0;n0,5,1,0;n0,4,1,0;n0,3,1,0;n0,2,1,0;n0,1,1,0;n0,0,1,0;");
        due("nine", x.count(1), 9);
        for (int i = 0; i <= 8; i++) {
            due("nail(" + i + ", 1)", x.nail(i, 1), 8 - i);
        }
        due("nail(9, 1)", x.nail(9, 1), BAD);
    }

    private static void horseshoeFourDeep() {
        noFault("n2,0,4,0;", "n2,0,1,0;", "n1,0,5,0;", "n3,0,5,0;", "n0,0,5,0;", "n4,0,5,0;");
        faultAtOnce("n2,0,5,0;", "n2,0,9,0;", "n02,0,05,0;");
        due("4 deep", laid("n2,0,4,0;").nail(0, 2), 4);
    }

    // ---- damp and bell

    private static void dampAndBell() {
        sentence("COLUMN C has DAMP D (0 to 9;", TextEdges::dampZeroToNine);
        sentence("COLUMN C has DAMP D", TextEdges::columnsThatThereAre);
        sentence("1 without;", TextEdges::dampOneWithout);
        sentence("the last one of each)", TextEdges::theLastDampOfEach);
        sentence("the BELL rings every B (1 to 30) DAYS", TextEdges::bellOneToThirty);
        sentence("(7 without;", TextEdges::bellSevenWithout);
        sentence("of several such the last one counts)", TextEdges::theLastBell);
    }

    private static void dampZeroToNine() {
        noFault("d0,0;", "d0,9;", "d0,00;", "d0,09;");
        faultAtOnce("d0,10;", "d0,99;");
        due("damp 0", laid("n0,0,1,0;d0,0;").damp(0), 0);
        due("damp 9", laid("n0,0,1,0;d0,9;").damp(0), 9);
    }

    private static void columnsThatThereAre() {
        noFault("d4,1;", "w2,2;d1,1;", "w2,6;d5,1;", "w6,2;d1,1;");
        faultAtOnce("d5,1;", "d10,1;", "d99,1;");
        fault("w2,2;d2,1;", 5);
        fault("w6,2;d2,1;", 5);
        fault("w2,6;d6,1;", 5);
        fault("w6,6;d6,1;", 5);
        due("the last column", laid("w2,6;n0,0,1,0;d5,4;").damp(5), 4);
    }

    private static void dampOneWithout() {
        NailedYears x = new NailedYears();
        due("ahead of it", x.damp(2), 4);
        writeAll(x, "w2,6;n0,0,1,0;d3,6;");
        x.lay();
        int[] damps = {1, 1, 1, 6, 1, 1};
        for (int c = 0; c < damps.length; c++) {
            due("damp(" + c + ")", x.damp(c), damps[c]);
        }
    }

    private static void theLastDampOfEach() {
        NailedYears x = laid("n0,0,1,0;d0,3;d1,9;d0,5;d1,2;d0,0;");
        due("damp(0)", x.damp(0), 0);
        due("damp(1)", x.damp(1), 2);
        fault("d0,3;d0,10;d0,4;", 5);
    }

    private static void bellOneToThirty() {
        noFault("b1;", "b30;", "b01;");
        faultAtOnce("b0;", "b00;", "b31;", "b99;");
        due("each day", laid("n0,0,1,0;b1;").count(5), 1);
        due("each 30th", laid("n0,0,1,0;b30;").count(5), 30);
    }

    private static void bellSevenWithout() {
        NailedYears x = new NailedYears();
        due("ahead of it", x.count(5), 5);
        writeAll(x, "n1,0,3,0;");
        x.lay();
        due("count(5)", x.count(5), 7);
        x.pass(6);
        deep(x, 3);
        x.pass(1);
        deep(x, 2);
    }

    private static void theLastBell() {
        due("count(5)", laid("n0,0,1,0;b9;b3;b5;").count(5), 5);
        due("around a nail", laid("b9;n0,0,1,0;b30;").count(5), 30);
        fault("b9;b31;b5;", 3);
    }

    // ---- fault and lay

    private static void faultAndLay() {
        sentence("FAULT: the place of the first letter of the first ITEM that is not so.", TextEdges::placeOfTheFirstFault);
        sentence("LAID is a TEXT without FAULT, of a NAIL at least (NO else;", TextEdges::laidOfANailAtLeast);
        sentence("at first " + FIRST, TextEdges::atFirst);
    }

    private static void placeOfTheFirstFault() {
        fault("x", 0);
        fault("b5;b0;x", 3);
        fault("b5;d9,1;b6;", 3);
        fault("b5;b6;n0,0,1,64;b7;", 6);
        fault("w4,5;n0,0,1,0;n0,0,1,0;d9,0;", 14);
        fault(repeated("b5;", 66) + "b", 198);
        fault(repeated("b5;", 66) + "b5", 198);
        NailedYears x = written("b5;b");
        due("as it is written", x.fault(), 3);
        writeAll(x, "6");
        due("no ; yet", x.fault(), 3);
        writeAll(x, ";");
        due("whole", x.fault(), NONE);
    }

    private static void laidOfANailAtLeast() {
        String[] not = {"", "w2,2;", "w2,2;d0,1;b4;", "n0,0,1,0", "n0,0,1,0;x", "xn0,0,1,0;", "n0,20,1,0;", "n0,0,1,0;b0;"};
        for (String text : not) {
            NailedYears x = written(text);
            due("lay() of " + text, x.lay(), NO);
            due("the first wall stays", x.count(1), 6);
        }
        due("one nail", written("n0,0,1,0;").lay(), 1);
        due("nine nails", written(nailsInCells(3, 9) + "n0,0,1,0;n0,1,1,0;").lay(), 9);
    }

    private static void atFirst() {
        NailedYears x = new NailedYears();
        NailedYears y = laid(FIRST);
        for (int what = 0; what <= 8; what++) {
            due("count(" + what + ")", x.count(what), y.count(what));
        }
        for (int i = 0; i < 6; i++) {
            for (int what = 0; what <= 5; what++) {
                due("nail(" + i + ", " + what + ")", x.nail(i, what), y.nail(i, what));
            }
        }
        for (int c = 0; c < 5; c++) {
            due("damp(" + c + ")", x.damp(c), y.damp(c));
        }
        due("THE TEXT is empty", x.count(9), 0);
        due("so there is no fault", x.fault(), NONE);
        due("and nothing to lay", x.lay(), NO);
    }

    // ---- promises 1 to 8

    private static void promises() {
        sentence("A letter (32 to 126, as in ASCII) comes behind THE TEXT: how long it is. BAD; FULL.", TextEdges::write);
        sentence("THE TEXT is empty: how long it was.", TextEdges::wipe);
        sentence("FAULT. NONE.", TextEdges::faultOrNone);
        sentence("LAID: how many NAILS; no DAY gone by, nothing MEASURED, UNDONE, KEPT;", TextEdges::layEndsAll);
        sentence("THE TEXT stays. NO.", TextEdges::theTextStays);
        sentence("how deep (2), RUST (3), YEAR (4)", TextEdges::nailSlots);
        sentence("CELL (1; of an OUT one that in which it was)", TextEdges::cellOfAnOutOne);
        sentence("1 if it is LOOSE (5; OUT ones are not). BAD.", TextEdges::outOnesAreNotLoose);
        sentence("The NAIL in a CELL. NONE; BAD.", TextEdges::cell);
        sentence("DAMP of a COLUMN. BAD.", TextEdges::damp);
    }

    private static void write() {
        NailedYears x = new NailedYears();
        int[] none = {31, 127, 0, -1, -32, LEAST, MOST, 128, 256 + 98, 65536 + 98, LEAST + 98, 10, 233};
        for (int letter : none) {
            due("write(" + letter + ")", x.write(letter), BAD);
        }
        due("nothing is written", x.count(9), 0);
        for (int letter = 32; letter <= 126; letter++) {
            due("write(" + letter + ")", x.write(letter), letter - 31);
        }
        writeAll(x, repeated(" ", 105));
        due("write(32) behind 200", x.write(32), FULL);
        due("write(126) behind 200", x.write(126), FULL);
        due("write(31) behind 200", x.write(31), BAD);
    }

    private static void wipe() {
        NailedYears x = new NailedYears();
        due("wipe() of none", x.wipe(), 0);
        due("write", x.write('x'), 1);
        due("fault()", x.fault(), 0);
        due("wipe() of one", x.wipe(), 1);
        due("fault() of none", x.fault(), NONE);
        due("lay() of none", x.lay(), NO);
        due("wipe() again", x.wipe(), 0);
        writeAll(x, repeated("b", 200));
        due("wipe() of a full one", x.wipe(), 200);
        due("count(9)", x.count(9), 0);
        due("room again", x.write('b'), 1);
        x.wipe();
        writeAll(x, "b5;b6;");
        x.wipe();
        writeAll(x, "b5");
        due("the ; that was behind it is gone", x.fault(), 0);
        x.write(';');
        due("read up to its end alone", x.fault(), NONE);
    }

    private static void faultOrNone() {
        due("of none", new NailedYears().fault(), NONE);
        NailedYears x = written(FIRST);
        due("none", x.fault(), NONE);
        x.write('n');
        due("the last letter", x.fault(), FIRST.length());
        due("asked again", x.fault(), FIRST.length());
        due("the wall stays", x.count(0), 20);
    }

    private static void layEndsAll() {
        NailedYears x = laid("w2,3;n0,0,5,1;");
        x.pass(3);
        x.hammer(0);
        x.keep();
        x.keep();
        x.measure(0, 1, 0);
        due("lay()", x.lay(), 1);
        for (int what : new int[] {4, 6, 7, 8}) {
            due("count(" + what + ")", x.count(what), 0);
        }
        due("undo()", x.undo(), NO);
        due("back()", x.back(), NO);
        due("forget()", x.forget(), 0);
        due("kinds(0)", x.kinds(0), 31);
        stands(x, 0, 5, 0, 1);
        due("the days begin anew", x.pass(1), 1);
        NailedYears asked = laid("n0,0,2,1;n0,1,9,1;d0,4;d1,9;b5;");
        asked.drive(0, 2, 2, 63);
        asked.pass(3);
        asked.behind(7, 1, 0);
        asked.century(1, 9, 0);
        asked.damps(0);
        asked.lay();
        same("laid again", everything(asked), everything(laid("n0,0,2,1;n0,1,9,1;d0,4;d1,9;b5;")));
    }

    private static void theTextStays() {
        NailedYears x = laid("n0,0,5,1;");
        due("behind lay()", x.count(9), 9);
        due("it can be laid again", x.lay(), 1);
        x.write('n');
        due("with a fault", x.lay(), NO);
        due("behind NO", x.count(9), 10);
        due("and goes on", x.write('0'), 11);
    }

    private static void nailSlots() {
        NailedYears x = laid("n4,7,3,21;n2,19,4,63;");
        int[][] slots = {{4, 7, 3, 0, 21, 0}, {2, 19, 4, 0, 63, 0}};
        for (int i = 0; i < slots.length; i++) {
            for (int what = 0; what <= 5; what++) {
                due("nail(" + i + ", " + what + ")", x.nail(i, what), slots[i][what]);
            }
        }
        for (int none : new int[] {-1, 6, LEAST, MOST, 64, 256}) {
            due("nail(0, " + none + ")", x.nail(0, none), BAD);
        }
        for (int none : new int[] {-1, 2, 9, 32, LEAST, MOST}) {
            for (int what = 0; what <= 5; what++) {
                due("nail(" + none + ", " + what + ")", x.nail(none, what), BAD);
            }
        }
    }

    private static void cellOfAnOutOne() {
        NailedYears x = laid("n0,19,1,1;n0,4,1,2;");
        x.pull(0, 1);
        due("nail(0, 1)", x.nail(0, 1), 19);
        x.drive(3, 19, 2, 0);
        due("another one is in it", x.nail(0, 1) * 100 + x.nail(2, 1), 1919);
        x.pass(30);
        due("out by rust", x.nail(1, 2), 0);
        due("nail(1, 1)", x.nail(1, 1), 4);
        due("its kind", x.nail(1, 0), 0);
    }

    private static void outOnesAreNotLoose() {
        NailedYears x = laid("n0,0,1,1;n0,1,2,1;n0,2,3,1;n0,3,9,1;" + QUIET);
        int[] loose = {1, 1, 0, 0};
        for (int i = 0; i < loose.length; i++) {
            due("nail(" + i + ", 5)", x.nail(i, 5), loose[i]);
        }
        x.pull(0, 1);
        due("an out one", x.nail(0, 5), 0);
        x.pull(2, 1);
        due("2 deep now", x.nail(2, 5), 1);
    }

    private static void cell() {
        NailedYears x = laid("w3,2;n0,5,3,1;n0,0,3,1;");
        due("the first", x.cell(0), 1);
        due("the last", x.cell(5), 0);
        for (int free = 1; free <= 4; free++) {
            due("cell(" + free + ")", x.cell(free), NONE);
        }
        for (int none : new int[] {-1, 6, 19, 36, LEAST, MOST}) {
            due("cell(" + none + ")", x.cell(none), BAD);
        }
        x.pull(0, 3);
        due("an out one is in none", x.cell(5), NONE);
        x.drive(0, 5, 1, 0);
        due("the one that holds", x.cell(5), 2);
    }

    private static void damp() {
        NailedYears x = laid("w2,3;n0,0,3,1;d0,0;d2,9;");
        due("damp(0)", x.damp(0), 0);
        due("damp(1)", x.damp(1), 1);
        due("damp(2)", x.damp(2), 9);
        for (int none : new int[] {-1, 3, 4, 5, 6, LEAST, MOST}) {
            due("damp(" + none + ")", x.damp(none), BAD);
        }
    }
}
