/** Each promise by answers that were worked out by hand: ordinary ones, the edges, and wrong inputs. */
public final class PromiseTests extends Checks {
    public static void main(String[] args) {
        test("constants", PromiseTests::theConstants);
        test("1 a new object", PromiseTests::p1ANewObject);
        test("2 write", PromiseTests::p2Write);
        test("3 wipe", PromiseTests::p3Wipe);
        test("4 fault", PromiseTests::p4Fault);
        test("5 lay", PromiseTests::p5Lay);
        test("6 nail", PromiseTests::p6Nail);
        test("7 cell", PromiseTests::p7Cell);
        test("8 damp", PromiseTests::p8Damp);
        test("9 pass", PromiseTests::p9Pass);
        test("9 pass: rust", PromiseTests::p9Rust);
        test("9 pass: the bell", PromiseTests::p9Bell);
        test("9 pass: mixing", PromiseTests::p9Mixing);
        test("10 hammer", PromiseTests::p10Hammer);
        test("11 oil", PromiseTests::p11Oil);
        test("12 pull", PromiseTests::p12Pull);
        test("13 drive", PromiseTests::p13Drive);
        test("14 undo", PromiseTests::p14Undo);
        test("15 behind", PromiseTests::p15Behind);
        test("16 first", PromiseTests::p16First);
        test("17 clash", PromiseTests::p17Clash);
        test("18 room", PromiseTests::p18Room);
        test("19 blows", PromiseTests::p19Blows);
        test("20 letOut", PromiseTests::p20LetOut);
        test("21 from", PromiseTests::p21From);
        test("22 measure", PromiseTests::p22Measure);
        test("23 forget", PromiseTests::p23Forget);
        test("24 kinds", PromiseTests::p24Kinds);
        test("25 damps", PromiseTests::p25Damps);
        test("26 shaken", PromiseTests::p26Shaken);
        test("27 century", PromiseTests::p27Century);
        test("28 keep", PromiseTests::p28Keep);
        test("29 back", PromiseTests::p29Back);
        test("30 count", PromiseTests::p30Count);
        end();
    }

    private static void theConstants() {
        due("BAD", BAD, -1);
        due("NO", NO, -2);
        due("FULL", FULL, -3);
        due("NONE", NONE, -4);
    }

    private static void p1ANewObject() {
        NailedYears x = new NailedYears();
        int[] counts = {20, 6, 0, 1, 0, 5, 0, 0, 0, 0};
        for (int what = 0; what < counts.length; what++) {
            due("count(" + what + ")", x.count(what), counts[what]);
        }
        int[][] nails = {{0, 0, 6, 0, 1, 0}, {1, 1, 5, 0, 2, 0}, {2, 6, 4, 0, 12, 0}, {3, 7, 2, 0, 16, 1},
            {4, 12, 7, 0, 33, 0}, {0, 13, 3, 0, 8, 0}};
        for (int i = 0; i < nails.length; i++) {
            for (int what = 0; what < 6; what++) {
                due("nail(" + i + ", " + what + ")", x.nail(i, what), nails[i][what]);
            }
        }
        int[] damps = {2, 3, 4, 1, 1};
        for (int c = 0; c < damps.length; c++) {
            due("damp(" + c + ")", x.damp(c), damps[c]);
        }
        due("fault()", x.fault(), NONE);
        due("lay()", x.lay(), NO);
        due("count(1)", x.count(1), 6);
    }

    private static void p2Write() {
        NailedYears x = new NailedYears();
        due("write(31)", x.write(31), BAD);
        due("write(127)", x.write(127), BAD);
        due("write(least)", x.write(LEAST), BAD);
        due("write(most)", x.write(MOST), BAD);
        due("count(9)", x.count(9), 0);
        due("write(32)", x.write(32), 1);
        due("write(126)", x.write(126), 2);
        for (int k = 3; k <= 200; k++) {
            due("write(98)", x.write(98), k);
        }
        due("write(98) behind 200", x.write(98), FULL);
        due("write(31) behind 200", x.write(31), BAD);
        due("count(9)", x.count(9), 200);
    }

    private static void p3Wipe() {
        NailedYears x = new NailedYears();
        due("wipe() of none", x.wipe(), 0);
        writeAll(x, "b5;x");
        due("wipe()", x.wipe(), 4);
        due("wipe() again", x.wipe(), 0);
        due("write behind wipe", x.write('b'), 1);
        x.wipe();
        due("fault() of none", x.fault(), NONE);
        due("nails stay", x.count(1), 6);
    }

    private static void p4Fault() {
        fault("", NONE);
        fault("w4,5;n0,0,1,0;d0,0;b1;", NONE);
        fault("n4,19,9,63;n2,18,4,0;d4,9;b30;", NONE);
        fault("n04,09,09,07;d04,00;b07;", NONE);
        fault("x", 0);
        fault("b", 0);
        fault("b;", 0);
        fault("b5", 0);
        fault("b5;b", 3);
        fault("b5;;", 3);
        fault("b5; b5;", 3);
        fault("b5;B5;", 3);
        fault("b005;", 0);
        fault("b5,;", 0);
        fault("b,5;", 0);
        fault("b5,5;", 0);
        fault("b5.", 0);
        fault("b0;", 0);
        fault("b31;", 0);
        fault("b30;b1;b31;", 7);
        faultsOfWalls();
        faultsOfNails();
        faultsOfDamp();
    }

    private static void faultsOfWalls() {
        fault("w2,2;", NONE);
        fault("w6,6;", NONE);
        fault("w02,06;", NONE);
        fault("w1,2;", 0);
        fault("w2,1;", 0);
        fault("w7,6;", 0);
        fault("w6,7;", 0);
        fault("w4;", 0);
        fault("w4,5,1;", 0);
        fault("w2,2;w6,6;n0,35,1,0;", NONE);
        fault("w6,6;w2,2;n0,4,1,0;", 10);
        fault("b5;w4,5;", 3);
        fault("d0,1;w4,5;", 5);
        fault("n0,0,1,0;w4,5;", 9);
        fault("w2,2;n0,0,1,0;w2,2;", 14);
    }

    private static void faultsOfNails() {
        fault("n5,0,1,0;", 0);
        fault("n0,20,1,0;", 0);
        fault("w2,3;n0,5,1,0;n0,6,1,0;", 14);
        fault("n0,0,0,0;", 0);
        fault("n0,0,10,0;", 0);
        fault("n2,0,5,0;", 0);
        fault("n3,0,5,0;", NONE);
        fault("n0,0,1,64;", 0);
        fault("n0,0,1;", 0);
        fault("n0,0,1,0,0;", 0);
        fault("n0,0,1,0", 0);
        fault("n0,0,1,0;n0,0,1,0;", 9);
        fault("n0,0,1,0;n0,00,1,0;", 9);
        StringBuilder nine = new StringBuilder();
        for (int x = 0; x < 9; x++) {
            nine.append("n0,").append(x).append(",1,0;");
        }
        fault(nine.toString(), NONE);
        fault(nine + "b4;n0,9,1,0;", 84);
    }

    private static void faultsOfDamp() {
        fault("d0,9;d0,0;", NONE);
        fault("d5,1;", 0);
        fault("d4,1;d5,1;", 5);
        fault("w2,6;d5,1;", NONE);
        fault("w2,2;d2,1;", 5);
        fault("d0,10;", 0);
        fault("d0;", 0);
        fault("d0,1,1;", 0);
    }

    private static void p5Lay() {
        NailedYears x = new NailedYears();
        x.pass(1);
        x.keep();
        x.measure(0, 1, 1);
        due("lay() of none", x.lay(), NO);
        writeAll(x, "w2,3;b4;");
        due("lay() without nails", x.lay(), NO);
        writeAll(x, "n0,6,1,1;");
        due("lay() with a fault", x.lay(), NO);
        due("nothing changed", x.count(0) + 100 * x.count(4) + 1000 * x.count(6) + 10000 * x.count(8), 11120);
        x.wipe();
        writeAll(x, "w2,3;n1,5,7,9;n2,0,3,33;b4;b9;d2,4;d2,5;");
        due("lay()", x.lay(), 2);
        int[] counts = {6, 2, 0, 0, 0, 9, 0, 0, 0, 40};
        for (int what = 0; what < counts.length; what++) {
            due("count(" + what + ")", x.count(what), counts[what]);
        }
        int[] nail = {1, 5, 7, 0, 9, 0};
        for (int what = 0; what < nail.length; what++) {
            due("nail(0, " + what + ")", x.nail(0, what), nail[what]);
        }
        due("damp(2)", x.damp(2), 5);
        due("damp(0)", x.damp(0), 1);
        due("damp(3)", x.damp(3), BAD);
        due("undo()", x.undo(), NO);
        due("back()", x.back(), NO);
        x.pass(5);
        due("lay() again", x.lay(), 2);
        due("no day gone by", x.count(4), 0);
        NailedYears plain = laid("n0,19,1,1;");
        due("cells without w", plain.count(0), 20);
        due("bell without b", plain.count(5), 7);
        due("damp without d", plain.damp(4), 1);
        due("the last w", laid("w2,2;w3,4;n0,0,1,0;").count(0), 12);
    }

    private static void p6Nail() {
        NailedYears x = laid("n4,7,3,21;n0,8,1,3;n0,9,2,4;");
        int[] nail = {4, 7, 3, 0, 21, 0};
        for (int what = 0; what < nail.length; what++) {
            due("nail(0, " + what + ")", x.nail(0, what), nail[what]);
        }
        due("1 deep is loose", x.nail(1, 5), 1);
        due("2 deep is loose", x.nail(2, 5), 1);
        x.pull(1, 1);
        int[] out = {0, 8, 0, 0, 0, 0};
        for (int what = 0; what < out.length; what++) {
            due("of an out one nail(1, " + what + ")", x.nail(1, what), out[what]);
        }
        due("nail(-1, 0)", x.nail(-1, 0), BAD);
        due("nail(3, 0)", x.nail(3, 0), BAD);
        due("nail(0, -1)", x.nail(0, -1), BAD);
        due("nail(0, 6)", x.nail(0, 6), BAD);
        due("nail(least, least)", x.nail(LEAST, LEAST), BAD);
        due("nail(most, most)", x.nail(MOST, MOST), BAD);
    }

    private static void p7Cell() {
        NailedYears x = laid("w3,2;n0,5,3,1;n0,2,3,1;");
        due("cell(5)", x.cell(5), 0);
        due("cell(2)", x.cell(2), 1);
        due("cell(0)", x.cell(0), NONE);
        due("cell(6)", x.cell(6), BAD);
        due("cell(-1)", x.cell(-1), BAD);
        due("cell(most)", x.cell(MOST), BAD);
        x.pull(0, 3);
        due("cell(5) free", x.cell(5), NONE);
        x.drive(0, 5, 1, 0);
        due("cell(5) driven into", x.cell(5), 2);
    }

    private static void p8Damp() {
        NailedYears x = laid("w2,6;n0,0,3,1;d0,0;d5,9;d5,8;");
        due("damp(0)", x.damp(0), 0);
        due("damp(1)", x.damp(1), 1);
        due("damp(5)", x.damp(5), 8);
        due("damp(6)", x.damp(6), BAD);
        due("damp(-1)", x.damp(-1), BAD);
        due("damp(least)", x.damp(LEAST), BAD);
    }

    private static void p9Pass() {
        NailedYears x = laid("n1,0,9,1;b30;");
        due("pass(0)", x.pass(0), BAD);
        due("pass(31)", x.pass(31), BAD);
        due("pass(-1)", x.pass(-1), BAD);
        due("pass(most)", x.pass(MOST), BAD);
        due("nothing gone by", x.count(4), 0);
        due("pass(29)", x.pass(29), 29);
        stands(x, 0, 9, 0, 1);
        due("pass(1)", x.pass(1), 30);
        stands(x, 0, 8, 0, 1);
        due("pass(30)", x.pass(30), 60);
        stands(x, 0, 7, 0, 1);
    }

    private static void p9Rust() {
        NailedYears x = laid("w2,3;n0,0,3,1;n1,1,3,2;n4,2,3,4;n3,3,1,8;d0,9;d1,9;d2,5;b30;");
        x.pass(1);
        stands(x, 0, 3, 9, 1);
        stands(x, 1, 3, 0, 2);
        stands(x, 2, 3, 5, 4);
        stands(x, 3, 1, 9, 8);
        x.pass(1);
        stands(x, 0, 2, 8, 1);
        stands(x, 2, 2, 0, 4);
        stands(x, 3, 0, 0, 0);
        due("its cell is free", x.cell(3), NONE);
        x.pass(1);
        stands(x, 0, 1, 7, 1);
        x.pass(1);
        stands(x, 0, 0, 0, 0);
        x.pass(3);
        stands(x, 0, 0, 0, 0);
        NailedYears dry = laid("n0,0,3,1;d0,0;b30;");
        dry.pass(29);
        stands(dry, 0, 3, 0, 1);
    }

    private static void p9Bell() {
        String dry = "d0,0;d1,0;d2,0;d3,0;b2;";
        // CROOKED ones lean right whatever is there, but not round the wall's edge.
        NailedYears x = laid("w2,4;n4,0,5,0;n3,1,5,0;n2,2,4,0;n4,3,5,0;n0,4,5,0;n4,5,5,0;n4,6,5,0;" + dry);
        x.pass(1);
        due("no bell yet", x.nail(0, 2), 5);
        x.pass(1);
        int[] deep = {4, 4, 2, 4, 4, 4, 3};
        for (int i = 0; i < deep.length; i++) {
            due("nail(" + i + ", 2)", x.nail(i, 2), deep[i]);
        }
        // One that a lower number's leaning brings to 0 held ahead of the bell, so it leans as well.
        NailedYears chain = laid("w2,4;n4,0,1,0;n4,1,1,0;n0,2,3,0;" + dry);
        chain.pass(2);
        due("leaned on by one that comes out", chain.nail(2, 2), 1);
        due("both came out", chain.count(2), 2);
        // One that rust brings to 0 ahead of the bell does not lean.
        NailedYears rusted = laid("w2,4;n4,0,1,0;n0,1,3,0;d0,5;d1,0;b2;");
        rusted.pass(2);
        due("rusted out ahead of the bell", rusted.nail(0, 2), 0);
        due("so it did not lean", rusted.nail(1, 2), 2);
        NailedYears shoe = laid("n2,0,1,7;n0,1,9,0;d0,0;d1,0;b1;");
        shoe.pass(1);
        stands(shoe, 0, 0, 0, 0);
        due("the other one", shoe.nail(1, 2), 8);
        shoe.pull(1, 7);
        shoe.drive(4, 0, 9, 0);
        shoe.drive(0, 2, 3, 0);
        shoe.pass(1);
        due("shaken and leaned on, not below 0", shoe.nail(1, 2), 0);
        due("not beside the leaning one", shoe.nail(3, 2), 2);
    }

    private static void p9Mixing() {
        String quiet = "d0,0;d1,0;d2,0;b30;";
        NailedYears x = laid("w2,3;n0,0,2,1;n0,2,2,2;n0,1,1,4;n0,3,2,8;n0,4,3,16;n1,5,2,32;" + quiet);
        due("nothing mixes as it is laid", x.nail(0, 4), 1);
        x.pass(1);
        // Twos: 0 2 (5, 5), 0 3 (13, 13), 1 2 (7, 7), 1 5 (39, 39).
        int[] years = {13, 39, 7, 13, 16, 39};
        for (int i = 0; i < years.length; i++) {
            due("nail(" + i + ", 4)", x.nail(i, 4), years[i]);
        }
        x.pass(1);
        // 0 2 (15, 15), 0 3 (15, 15), 1 2 (47, 47), 1 5 (47, 47).
        int[] later = {15, 47, 47, 15, 16, 47};
        for (int i = 0; i < later.length; i++) {
            due("later nail(" + i + ", 4)", x.nail(i, 4), later[i]);
        }
        NailedYears edge = laid("w2,2;n0,1,2,1;n0,2,2,2;" + "d0,0;d1,0;b30;");
        edge.pass(1);
        due("a row's end is not beside the next row", edge.nail(0, 4), 1);
        // One that comes out on a day mixes no more on it.
        NailedYears out = laid("n0,0,1,1;n0,1,2,2;d0,0;d1,0;b1;");
        out.pass(1);
        due("nothing of the one that is out", out.nail(1, 4), 2);
    }

    private static void p10Hammer() {
        NailedYears x = laid("n0,0,6,1;n2,1,1,1;n3,2,5,1;n1,3,1,1;n4,4,1,1;");
        due("iron", x.hammer(0), 8);
        due("9 at most", x.hammer(0), 9);
        due("9 stays 9", x.hammer(0), 9);
        due("horseshoe", x.hammer(1), 3);
        due("horseshoe 4 at most", x.hammer(1), 4);
        due("bent", x.hammer(2), NO);
        due("bent stays", x.nail(2, 2), 5);
        due("silver", x.hammer(3), 3);
        due("crooked", x.hammer(4), 3);
        due("blows can be undone", x.count(7), 7);
        x.pull(3, 3);
        due("out", x.hammer(3), NO);
        due("hammer(-1)", x.hammer(-1), BAD);
        due("hammer(5)", x.hammer(5), BAD);
        due("hammer(least)", x.hammer(LEAST), BAD);
    }

    private static void p11Oil() {
        NailedYears x = laid("n0,0,6,1;n3,1,6,1;d0,4;d1,3;b30;");
        x.pass(2);
        due("oil(0)", x.oil(0), 8);
        due("no rust then", x.nail(0, 3), 0);
        due("the other stays", x.nail(1, 3), 6);
        due("oil(0) again", x.oil(0), 0);
        due("bent", x.oil(1), 6);
        due("as deep as it was", x.nail(0, 2), 6);
        due("oilings can be undone", x.count(7), 4);
        x.pull(0, 6);
        due("out", x.oil(0), NO);
        due("oil(-1)", x.oil(-1), BAD);
        due("oil(2)", x.oil(2), BAD);
        due("oil(most)", x.oil(MOST), BAD);
    }

    private static void p12Pull() {
        NailedYears x = laid("n3,0,6,1;n0,1,9,2;");
        x.pass(1);
        due("pull(0, 1)", x.pull(0, 1), 5);
        due("pull(0, 6)", x.pull(0, 6), NO);
        due("pull(0, 0)", x.pull(0, 0), BAD);
        due("pull(0, 10)", x.pull(0, 10), BAD);
        due("pull(0, -1)", x.pull(0, -1), BAD);
        due("pull(0, least)", x.pull(0, LEAST), BAD);
        due("pull(2, 1)", x.pull(2, 1), BAD);
        due("pull(-1, 1)", x.pull(-1, 1), BAD);
        stands(x, 0, 5, 1, 1);
        due("pull(0, 5)", x.pull(0, 5), 0);
        stands(x, 0, 0, 0, 0);
        due("free", x.cell(0), NONE);
        due("out", x.pull(0, 1), NO);
        due("out by 10", x.pull(0, 10), BAD);
        due("pull(1, 9)", x.pull(1, 9), 0);
        due("pullings can be undone", x.count(7), 4);
    }

    private static void p13Drive() {
        NailedYears x = laid("w3,3;n0,0,3,1;");
        due("kind 5", x.drive(5, 1, 1, 0), BAD);
        due("kind -1", x.drive(-1, 1, 1, 0), BAD);
        due("cell 9", x.drive(0, 9, 1, 0), BAD);
        due("cell -1", x.drive(0, -1, 1, 0), BAD);
        due("0 deep", x.drive(0, 1, 0, 0), BAD);
        due("10 deep", x.drive(0, 1, 10, 0), BAD);
        due("a horseshoe 5 deep", x.drive(2, 1, 5, 0), BAD);
        due("a horseshoe 5 deep, not free", x.drive(2, 0, 5, 0), BAD);
        due("year 64", x.drive(0, 1, 1, 64), BAD);
        due("year -1", x.drive(0, 1, 1, -1), BAD);
        due("not free", x.drive(0, 0, 1, 0), NO);
        due("nothing driven", x.count(1) + x.count(7), 1);
        due("drive(2, 8, 4, 63)", x.drive(2, 8, 4, 63), 1);
        int[] nail = {2, 8, 4, 0, 63, 0};
        for (int what = 0; what < nail.length; what++) {
            due("nail(1, " + what + ")", x.nail(1, what), nail[what]);
        }
        due("cell(8)", x.cell(8), 1);
        due("drivings can be undone", x.count(7), 1);
        x.pull(0, 3);
        for (int k = 2; k < 9; k++) {
            due("drive into " + (k - 2), x.drive(0, k - 2, 9, 0), k);
        }
        due("ten, the one out among them", x.drive(0, 7, 9, 0), FULL);
        due("not free ahead of full", x.drive(0, 8, 9, 0), NO);
        due("bad ahead of full", x.drive(0, 9, 9, 0), BAD);
    }

    private static void p14Undo() {
        NailedYears x = laid("n0,0,5,1;n0,1,2,2;d0,3;d1,0;b30;");
        due("undo() of none", x.undo(), NO);
        x.pass(3);
        x.oil(0);
        x.hammer(0);
        x.pull(1, 2);
        x.drive(1, 1, 4, 9);
        due("driven", x.count(1), 3);
        due("undo() of driving", x.undo(), 4);
        due("not driven", x.count(1), 2);
        due("nail 2", x.nail(2, 0), BAD);
        due("undo() of pulling", x.undo(), 3);
        stands(x, 1, 2, 0, 2);
        due("undo() of a blow", x.undo(), 2);
        stands(x, 0, 5, 0, 1);
        due("undo() of oiling", x.undo(), 1);
        stands(x, 0, 5, 9, 1);
        due("undo() of days", x.undo(), 0);
        stands(x, 0, 5, 0, 1);
        due("days", x.count(4), 0);
        due("undo() behind all", x.undo(), NO);
        for (int k = 0; k < 11; k++) {
            x.pass(1);
        }
        due("count(7)", x.count(7), 8);
        for (int k = 7; k >= 0; k--) {
            due("undo() of the last 8", x.undo(), k);
            due("days then", x.count(4), 3 + k);
        }
        due("undo() of a ninth", x.undo(), NO);
        due("three days stay", x.count(4), 3);
        due("NO changes nothing to undo", x.pull(0, 9) + x.undo(), 2 * NO);
    }

    private static void p15Behind() {
        NailedYears x = laid("n0,0,3,1;n0,1,2,2;d0,4;d1,0;b4;");
        due("behind(0, 0, 0)", x.behind(0, 0, 0), 3);
        due("behind(2, 0, 1)", x.behind(2, 0, 1), 8);
        due("behind(3, 0, 0)", x.behind(3, 0, 0), 2);
        due("behind(3, 0, 1)", x.behind(3, 0, 1), 2);
        due("behind(3, 0, 2)", x.behind(3, 0, 2), 3);
        due("behind(2, 1, 2)", x.behind(2, 1, 2), 2);
        due("behind(3, 1, 2)", x.behind(3, 1, 2), 3);
        due("behind(60, 0, 0)", x.behind(60, 0, 0), 0);
        due("behind(60, 0, 1)", x.behind(60, 0, 1), 0);
        due("behind(60, 0, 2)", x.behind(60, 0, 2), 0);
        due("nothing changes", x.nail(0, 2) + x.count(4) + x.count(7), 3);
        due("behind(61, 0, 0)", x.behind(61, 0, 0), BAD);
        due("behind(-1, 0, 0)", x.behind(-1, 0, 0), BAD);
        due("behind(1, 2, 0)", x.behind(1, 2, 0), BAD);
        due("behind(1, -1, 0)", x.behind(1, -1, 0), BAD);
        due("behind(1, 0, 3)", x.behind(1, 0, 3), BAD);
        due("behind(1, 0, -1)", x.behind(1, 0, -1), BAD);
        due("behind(most, most, most)", x.behind(MOST, MOST, MOST), BAD);
        x.pull(1, 2);
        due("of an out one", x.behind(1, 1, 0), 0);
        x.pass(3);
        due("the bell goes on as days have gone by", x.behind(1, 0, 0), 1);
    }

    private static void p16First() {
        String quiet = "d0,0;d1,0;d2,0;";
        NailedYears x = laid("n0,0,9,1;n0,1,4,2;n0,2,4,2;" + quiet + "b30;");
        due("first(0) on the 60th", x.first(0), 1);
        due("first(1) on the 60th", x.first(1), 60);
        x.pull(2, 1);
        due("first(0)", x.first(0), 2);
        due("first(1)", x.first(1), 30);
        x.pull(1, 2);
        due("first(0) now", x.first(0), 1);
        due("first(1) now", x.first(1), 0);
        due("first(2)", x.first(2), BAD);
        due("first(-1)", x.first(-1), BAD);
        due("nothing changes", x.count(4), 0);
        NailedYears far = laid("n0,0,5,1;" + quiet + "b30;");
        due("first(0) behind the 60th", far.first(0), NONE);
        due("first(1) behind the 60th", far.first(1), NONE);
        // From 3 to 0 on one day: rust 1, then 2 by the bell; never loose.
        NailedYears shoe = laid("n2,0,3,1;d0,5;b2;");
        due("out at once is not loose", shoe.first(0), NONE);
        NailedYears two = laid("n0,3,3,1;n0,1,3,1;n3,2,2,0;d1,5;d3,5;d2,0;b30;");
        two.pull(2, 2);
        due("of several the lowest, not an out one", two.first(0), 0);
        due("of several, when", two.first(1), 2);
    }

    private static void p17Clash() {
        String quiet = "d0,0;d1,0;d2,0;d3,0;";
        NailedYears x = laid("n0,0,2,1;n0,1,3,2;n0,2,2,1;" + quiet + "b30;");
        due("clash(0)", x.clash(0), 1);
        due("clash(1)", x.clash(1), 30);
        x.pull(1, 1);
        due("clash(1) on the next day", x.clash(1), 1);
        x.pass(1);
        // 0 and 1 have 3; 2 got 3 as well.
        due("no more deeds", x.clash(0), NONE);
        due("no more deeds, when", x.clash(1), NONE);
        due("clash(2)", x.clash(2), BAD);
        due("clash(-1)", x.clash(-1), BAD);
        NailedYears y = laid("n0,0,2,1;n0,2,2,3;n0,1,2,3;n0,3,2,4;" + quiet + "b30;");
        due("one of the two gets more", y.clash(0), 2);
        y.pull(0, 2);
        due("with the higher ones", y.clash(0), 13);
        NailedYears same = laid("n0,0,2,5;n0,1,2,5;" + quiet + "b30;");
        due("the same deeds", same.clash(0), NONE);
        NailedYears last = laid("n0,0,4,1;n0,1,4,2;" + quiet + "b30;");
        due("on the 60th day", last.clash(1), 60);
        due("of both", last.clash(0), 1);
        last.hammer(0);
        due("behind the 60th day", last.clash(0), NONE);
    }

    private static void p18Room() {
        NailedYears x = laid("w2,2;n0,0,3,1;");
        due("room(0)", x.room(0), 1);
        due("room(1)", x.room(1), 3);
        due("room(2)", x.room(2), BAD);
        due("room(-1)", x.room(-1), BAD);
        x.drive(0, 3, 3, 1);
        due("none: room(0)", x.room(0), 0);
        due("none: room(1)", x.room(1), NONE);
        x.pull(0, 3);
        due("an out one is no nail", x.room(1), 0);
        // Free of nails: 1 2 3 / 5 6 7 / 9 10 11 but for what is beside 0 and 8.
        NailedYears y = laid("w3,4;n0,0,3,1;n0,8,3,1;");
        due("3 by 4: room(0)", y.room(0), 4);
        due("3 by 4: room(1)", y.room(1), 2);
        NailedYears big = laid("w6,6;n0,35,3,1;");
        due("6 by 6: room(0)", big.room(0), 17);
        due("6 by 6: room(1)", big.room(1), 0);
        big.pull(0, 3);
        due("6 by 6, all free", big.room(0), 18);
        due("6 by 6, all free: room(1)", big.room(1), 0);
        NailedYears odd = laid("w3,3;n0,8,1,0;");
        odd.pull(0, 1);
        due("3 by 3: room(0)", odd.room(0), 5);
        due("3 by 3: room(1)", odd.room(1), 0);
        // With 1 nailed, 0, 2 and 4 are beside a nail: 3 (or 6), 5 (or 8), 7 are left.
        NailedYears low = laid("w3,3;n0,1,1,0;");
        due("3 by 3 less one: room(0)", low.room(0), 3);
        due("3 by 3 less one: room(1)", low.room(1), 3);
        NailedYears corners = laid("w3,3;n0,4,1,0;");
        due("the corners: room(0)", corners.room(0), 4);
        corners.drive(0, 0, 1, 0);
        due("three corners: room(0)", corners.room(0), 3);
        due("three corners: room(1)", corners.room(1), 2);
    }

    private static void p19Blows() {
        String quiet = "d0,0;d1,0;d2,0;d3,0;d4,0;";
        NailedYears x = laid("n0,0,3,1;n1,1,4,1;n0,2,2,1;" + quiet + "b3;");
        due("blows(1)", x.blows(1), 0);
        due("behind(60, 1, 0) ahead of it", x.behind(60, 1, 0), 0);
        due("blows(2)", x.blows(2), 0);
        due("blows(3)", x.blows(3), 1);
        due("blows(6): 2 less each", x.blows(6), 2);
        due("blows(9): 3 less", x.blows(9), 3);
        due("blows(18): 9 deep, 6 less", x.blows(18), 6);
        due("blows(21): 7 less", x.blows(21), NONE);
        due("blows(0)", x.blows(0), BAD);
        due("blows(31)", x.blows(31), BAD);
        due("blows(-1)", x.blows(-1), BAD);
        due("nothing changes", x.nail(0, 2) + x.count(7), 3);
        NailedYears bent = laid("n3,0,3,1;d0,1;b1;");
        due("bent, kept", bent.blows(9), 0);
        due("bent, not kept", bent.blows(10), NONE);
        NailedYears shoe = laid("n2,0,3,1;d0,5;b30;");
        due("horseshoe, kept by one", shoe.blows(3), 1);
        due("horseshoe, not kept", shoe.blows(4), NONE);
        // The crooked one is loose, so no blow is for it; it leans twice, and is out for the bells 3 and 4.
        NailedYears lean = laid("n4,0,2,1;n0,1,5,1;" + quiet + "b1;");
        due("the others as they are", lean.blows(4), 2);
        NailedYears loose = laid("n0,0,2,1;n0,1,1,1;");
        due("none that is 3 deep", loose.blows(30), 0);
        due("blows(30) of silver 9 deep", laid("n1,0,9,1;b5;").blows(30), 0);
        due("blows(30) by 7 bells", laid("n1,0,9,1;b4;").blows(30), NONE);
    }

    private static void p20LetOut() {
        NailedYears x = laid("n0,0,9,1;n0,1,5,3;n0,2,5,3;n0,3,3,4;n0,4,2,8;n0,5,1,8;");
        due("of several the lowest", x.letOut(0, 0), 1);
        due("by how much", x.letOut(0, 1), 3);
        due("letOut(1, 0)", x.letOut(1, 0), 1);
        due("letOut(2, 0)", x.letOut(2, 0), 3);
        due("letOut(2, 1)", x.letOut(2, 1), 1);
        due("loose ones alike", x.letOut(3, 0), 4);
        due("loose", x.letOut(3, 1), 0);
        due("letOut(4, 0)", x.letOut(4, 0), NONE);
        due("letOut(5, 1)", x.letOut(5, 1), NONE);
        due("letOut(6, 0)", x.letOut(6, 0), BAD);
        due("letOut(-1, 0)", x.letOut(-1, 0), BAD);
        due("letOut(0, 2)", x.letOut(0, 2), BAD);
        due("letOut(0, -1)", x.letOut(0, -1), BAD);
        x.pull(3, 3);
        due("out with its year", x.letOut(2, 0), NONE);
        due("9 deep", laid("n0,0,9,32;").letOut(5, 1), 7);
    }

    private static void p21From() {
        // Cells 0, 1, 2 along the first row, 7 below 2; 19 hangs together with none.
        NailedYears x = laid("n0,0,5,1;n0,1,5,2;n0,2,5,1;n0,7,5,3;n0,19,5,1;");
        due("from(0, 0)", x.from(0, 0), 13);
        due("from(1, 1)", x.from(1, 1), 10);
        due("from(4, 0)", x.from(4, 0), 16);
        due("from(0, 1)", x.from(0, 1), NO);
        due("from(5, 0)", x.from(5, 0), BAD);
        due("from(-1, 0)", x.from(-1, 0), BAD);
        due("from(0, 6)", x.from(0, 6), BAD);
        due("from(0, -1)", x.from(0, -1), BAD);
        x.pull(1, 5);
        due("an out one hangs together", x.from(0, 0), 13);
        due("of an out one", x.from(1, 1), NO);
        due("an out one had it", x.from(3, 1), 10);
        x.drive(0, 1, 5, 33);
        due("in one cell, driven", x.from(0, 0), 45);
        due("from(5, 5)", x.from(5, 5), 32);
        // What a year got by mixing it had not when it was laid.
        NailedYears mixed = laid("n0,0,2,1;n0,1,2,2;b30;");
        mixed.pass(1);
        due("got by mixing", mixed.from(0, 1), 2);
        due("got by mixing, the other", mixed.from(1, 0), 1);
        NailedYears edge = laid("w3,2;n0,1,2,1;n0,2,2,1;n0,5,3,1;n0,4,3,1;");
        due("a row's end is not beside the next row", edge.from(0, 0), 1);
        due("beside by a column and a row", edge.from(1, 0), 14);
    }

    private static void p22Measure() {
        NailedYears x = laid("n0,0,5,1;n0,1,1,1;");
        due("measure(2, 1, 1)", x.measure(2, 1, 1), BAD);
        due("measure(-1, 1, 1)", x.measure(-1, 1, 1), BAD);
        due("measure(0, 0, 1)", x.measure(0, 0, 1), BAD);
        due("measure(0, 31, 1)", x.measure(0, 31, 1), BAD);
        due("measure(0, 1, -1)", x.measure(0, 1, -1), BAD);
        due("measure(0, 1, 10)", x.measure(0, 1, 10), BAD);
        due("none yet", x.count(6), 0);
        x.pull(1, 1);
        due("measure(0, 1, 9)", x.measure(0, 1, 9), 1);
        due("measure(0, 30, 0)", x.measure(0, 30, 0), 2);
        due("of an out one", x.measure(1, 1, 0), 3);
        due("the same again", x.measure(1, 1, 0), 4);
        x.measure(0, 1, 1);
        due("the sixth", x.measure(0, 2, 1), 6);
        due("the seventh", x.measure(0, 2, 1), FULL);
        due("bad ahead of full", x.measure(0, 2, 10), BAD);
        due("six", x.count(6), 6);
        due("not undone", x.count(7), 1);
    }

    private static void p23Forget() {
        NailedYears x = laid("n0,0,5,1;b1;d0,0;");
        due("forget() of none", x.forget(), 0);
        x.measure(0, 1, 9);
        x.measure(0, 2, 9);
        due("kinds(0)", x.kinds(0), 0);
        due("forget()", x.forget(), 2);
        due("forget() again", x.forget(), 0);
        due("kinds(0) then", x.kinds(0), 31);
        due("damps(0) then", x.damps(0), 1023);
        due("measure again", x.measure(0, 1, 4), 1);
        due("kinds(0) by that one alone", x.kinds(0), 19);
    }

    private static void p24Kinds() {
        NailedYears x = laid("n0,0,8,1;n0,1,8,1;d0,5;d1,0;b2;");
        due("nothing measured", x.kinds(0), 31);
        // Behind 2 days: iron 6, silver 7, horseshoe 5, bent 7, crooked 6.
        x.measure(0, 2, 7);
        due("silver or bent", x.kinds(0), 10);
        due("of the other", x.kinds(1), 31);
        x.forget();
        x.measure(0, 2, 6);
        due("iron or crooked", x.kinds(0), 17);
        x.forget();
        x.measure(0, 2, 5);
        due("a horseshoe, deep as it is", x.kinds(0), 4);
        x.measure(0, 1, 8);
        due("both", x.kinds(0), 4);
        x.measure(0, 1, 7);
        due("not both", x.kinds(0), 0);
        due("nothing changes", x.nail(0, 0) * 100 + x.nail(0, 2), 8);
        due("kinds(2)", x.kinds(2), BAD);
        due("kinds(-1)", x.kinds(-1), BAD);
        x.forget();
        x.pass(1);
        x.measure(0, 1, 7);
        due("from now on: rust 5 stays of silver, the bell rings", x.kinds(0), 10);
        x.pull(1, 8);
        due("out", x.kinds(1), NO);
        // By the time that is asked, not by that of measuring: behind 1 day no bell rings any more.
        x.pass(1);
        due("from when it is asked", x.kinds(0), 0);
        // Behind 30 days, by rust and one bell: iron 5, silver 8, horseshoe 4, bent 6, crooked 5.
        NailedYears last = laid("n0,0,9,1;d0,1;b30;");
        last.measure(0, 30, 5);
        due("the 30th day counts", last.kinds(0), 17);
    }

    private static void p25Damps() {
        NailedYears x = laid("w2,3;n0,0,5,1;n1,3,5,1;n0,1,5,1;d0,3;d1,3;b30;");
        due("nothing measured", x.damps(0), 1023);
        x.measure(0, 2, 4);
        due("5 to 9", x.damps(0), 992);
        due("another column", x.damps(1), 1023);
        x.measure(0, 5, 3);
        due("10 of it twice in 5 days: 5 (25) or 6 to 9 (30 and more)", x.damps(0), 32);
        x.measure(1, 29, 5);
        due("silver is so by all", x.damps(0), 32);
        x.measure(1, 29, 4);
        due("never so", x.damps(0), 0);
        due("damps(3)", x.damps(3), BAD);
        due("damps(-1)", x.damps(-1), BAD);
        due("nothing changes", x.damp(0), 3);
        x.forget();
        x.pull(2, 5);
        x.measure(2, 3, 0);
        due("an out one that was in it", x.damps(1), 1023);
        x.measure(2, 3, 1);
        due("an out one is 0 deep", x.damps(1), 0);
        due("no nail in it", x.damps(2), 1023);
        x.forget();
        x.drive(0, 2, 5, 0);
        x.measure(3, 1, 9);
        due("one that was driven", x.damps(2), 0);
        x.undo();
        due("one that is no more", x.damps(2), 1023);
        due("measured all the same", x.count(6), 1);
    }

    private static void p26Shaken() {
        NailedYears x = laid("n0,0,4,1;n2,1,4,1;n3,2,3,1;n0,3,2,1;d0,0;d1,0;d2,0;d3,0;b1;");
        // At most one bell of 4: (5 ^ 4 + 4 * 5 ^ 4) of 10 ^ 4.
        due("shaken(0, 4, 5, 0)", x.shaken(0, 4, 5, 0), 5);
        due("shaken(0, 4, 5, 1)", x.shaken(0, 4, 5, 1), 16);
        due("horseshoe: no bell of 2", x.shaken(1, 2, 3, 0), 49);
        due("horseshoe: below", x.shaken(1, 2, 3, 1), 100);
        due("bent", x.shaken(2, 8, 10, 0), 1);
        due("bent: below", x.shaken(2, 8, 10, 1), 1);
        due("loose", x.shaken(3, 8, 0, 0), 0);
        due("loose: below", x.shaken(3, 8, 0, 1), 1);
        due("no days", x.shaken(0, 0, 7, 0), 1);
        due("no days: below", x.shaken(0, 0, 7, 1), 1);
        due("never rings", x.shaken(1, 8, 0, 0), 1);
        due("always rings", x.shaken(0, 2, 10, 0), 0);
        // No bell, or one of 8, by 1 of ten: 9 ^ 8 + 8 * 9 ^ 7 = 17 * 9 ^ 7.
        due("8 days", x.shaken(0, 8, 1, 0), 81310473);
        due("8 days: below", x.shaken(0, 8, 1, 1), 100000000);
        due("shaken(4, 1, 1, 0)", x.shaken(4, 1, 1, 0), BAD);
        due("shaken(-1, 1, 1, 0)", x.shaken(-1, 1, 1, 0), BAD);
        due("shaken(0, 9, 1, 0)", x.shaken(0, 9, 1, 0), BAD);
        due("shaken(0, -1, 1, 0)", x.shaken(0, -1, 1, 0), BAD);
        due("shaken(0, 1, 11, 0)", x.shaken(0, 1, 11, 0), BAD);
        due("shaken(0, 1, -1, 0)", x.shaken(0, 1, -1, 0), BAD);
        due("shaken(0, 1, 1, 2)", x.shaken(0, 1, 1, 2), BAD);
        due("shaken(0, 1, 1, -1)", x.shaken(0, 1, 1, -1), BAD);
        x.pull(0, 4);
        due("out", x.shaken(0, 1, 1, 0), NO);
        due("bad ahead of no", x.shaken(0, 9, 1, 0), BAD);
        // Rust takes 1 on day 2; the crooked one leans on the first bell alone, as it is out behind it.
        NailedYears lean = laid("n4,0,1,1;n0,1,5,1;d0,0;d1,5;b1;");
        // Behind 2 days: no bell 4, first bell alone 5 - 2 - 1 = 2, second alone 2, both 5 - 1 - 2 - 1 = 1.
        due("leaned on", lean.shaken(1, 2, 5, 0), 1);
        due("leaned on: below", lean.shaken(1, 2, 5, 1), 4);
        due("nothing changes", lean.nail(1, 2) + lean.count(4), 5);
    }

    private static void p27Century() {
        NailedYears x = new NailedYears();
        due("century(5, 60, 0)", x.century(5, 60, 0), 6);
        due("century(5, 60, 1)", x.century(5, 60, 1), 0);
        due("nothing changes", x.count(2) + x.count(4) + x.count(7), 0);
        due("damp stays", x.damp(0), 2);
        due("century(-1, 1, 0)", x.century(-1, 1, 0), BAD);
        due("century(10000, 1, 0)", x.century(10000, 1, 0), BAD);
        due("century(0, 0, 0)", x.century(0, 0, 0), BAD);
        due("century(0, 61, 0)", x.century(0, 61, 0), BAD);
        due("century(0, 1, 2)", x.century(0, 1, 2), BAD);
        due("century(0, 1, -1)", x.century(0, 1, -1), BAD);
        x.pull(3, 2);
        due("those that were out come not out", x.century(5, 60, 0), 5);
        due("century(9999, 60, 0)", x.century(9999, 60, 0), 5);
        // z 0, k 0, c 0: x 1, draw 0: damp 0, the bell rings, whatever b says.
        NailedYears bell = laid("n1,0,3,1;n1,1,1,2;n0,7,1,1;b30;");
        bell.pull(2, 1);
        due("the first day rings by 0: out", bell.century(0, 1, 0), 1);
        due("the first day rings by 0: loose", bell.century(0, 1, 1), 1);
        // z 1: x 7920, 62726400 % 65521 = 22803, draw 2850: damp 0, 178 % 4 = 2: no bell.
        due("no bell by 1", bell.century(1, 1, 1), 1);
        due("none out by 1", bell.century(1, 1, 0), 0);
        centuryOfDamp();
    }

    /** By z 2 no bell on three days; damp of columns 0 to 5: 1 3 5 7 9 0, then 0 9 9 8 7 6, then 4 1 8 5 1 8. */
    private static void centuryOfDamp() {
        NailedYears one = laid("w2,6;n0,0,1,1;n0,1,1,1;n0,2,1,1;n0,3,1,1;n0,4,1,1;n0,5,1,1;b1;d0,9;");
        due("10 of rust on no first day", one.century(2, 1, 0), 0);
        due("all loose", one.century(2, 1, 1), 6);
        due("columns 1 to 4 by the second day", one.century(2, 2, 0), 4);
        due("columns 0 and 5 are loose", one.century(2, 2, 1), 2);
        due("columns 1 to 5 by the third day", one.century(2, 3, 0), 5);
        due("column 0 is loose", one.century(2, 3, 1), 1);
        NailedYears two = laid("w2,6;n0,0,2,1;n0,1,2,1;n0,2,2,1;n0,3,2,1;n0,4,2,1;n0,5,2,1;");
        due("columns 2 and 3 by 22 and 20", two.century(2, 3, 0), 2);
        // By z 3 the bell rings on the first day alone; damp then 3 3 2 1 0 9, then 8 5 2 8 5 1, then 9 3 7 2 5 9.
        due("by 3, one bell and 11 or 10 of rust: columns 0 and 5", two.century(3, 2, 0), 2);
        due("by 3, all by the third day", two.century(3, 3, 0), 6);
        NailedYears known = laid("w3,4;n0,0,4,1;n4,1,4,2;n4,2,5,4;n3,3,6,8;n2,4,4,16;n1,5,3,32;n0,9,2,3;n0,10,2,12;"
            + "d0,5;d1,0;d2,9;b3;");
        int[] z = {0, 77, 5000, 9999};
        int[] out = {7, 1, 2, 4};
        int[] loose = {0, 1, 5, 4};
        for (int k = 0; k < z.length; k++) {
            due("century(" + z[k] + ", 4, 0)", known.century(z[k], 4, 0), out[k]);
            due("century(" + z[k] + ", 4, 1)", known.century(z[k], 4, 1), loose[k]);
            due("century(" + z[k] + ", 60, 0)", known.century(z[k], 60, 0), 8);
            due("century(" + z[k] + ", 60, 1)", known.century(z[k], 60, 1), 0);
        }
    }

    private static void p28Keep() {
        NailedYears x = laid("n0,0,5,1;");
        due("keep()", x.keep(), 1);
        due("keep() again", x.keep(), 2);
        due("2 at most", x.keep(), FULL);
        due("still 2", x.count(8), 2);
        x.back();
        due("keep() behind back()", x.keep(), 2);
        due("keeping is not undone", x.undo(), NO);
    }

    private static void p29Back() {
        NailedYears x = laid("n0,0,5,1;d0,3;b30;");
        due("back() of none", x.back(), NO);
        x.pass(2);
        x.keep();
        x.pass(2);
        x.drive(0, 1, 2, 2);
        x.keep();
        x.hammer(0);
        x.measure(1, 1, 1);
        writeAll(x, "b1;");
        due("back()", x.back(), 1);
        due("as kept last: days", x.count(4), 4);
        due("as kept last: nails", x.count(1), 2);
        stands(x, 0, 4, 2, 1);
        due("measured stays", x.count(6), 1);
        due("the text stays", x.count(9), 21);
        due("nothing is undone", x.undo(), NO);
        x.pass(1);
        due("back() again", x.back(), 0);
        due("as kept first: days", x.count(4), 2);
        due("as kept first: nails", x.count(1), 1);
        stands(x, 0, 5, 6, 1);
        due("nothing is undone then", x.undo(), NO);
        due("back() behind all", x.back(), NO);
    }

    private static void p30Count() {
        NailedYears x = laid("w3,6;n0,0,5,1;n0,1,1,1;n0,2,2,1;b9;");
        x.pull(1, 1);
        x.drive(0, 4, 1, 1);
        x.pass(1);
        x.measure(0, 1, 1);
        x.measure(0, 1, 1);
        x.keep();
        int[] counts = {18, 4, 1, 2, 1, 9, 2, 3, 1, 35};
        for (int what = 0; what < counts.length; what++) {
            due("count(" + what + ")", x.count(what), counts[what]);
        }
        due("count(10)", x.count(10), BAD);
        due("count(-1)", x.count(-1), BAD);
        due("count(least)", x.count(LEAST), BAD);
        due("count(most)", x.count(MOST), BAD);
    }
}
