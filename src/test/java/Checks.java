import java.io.IOException;
import java.nio.file.Files;
import java.nio.file.Path;

/** What the tests share: answers are held against those that are due, under the words that ask for them. */
abstract class Checks {
    static final int BAD = NailedYears.BAD, NO = NailedYears.NO, FULL = NailedYears.FULL, NONE = NailedYears.NONE;
    static final int LEAST = Integer.MIN_VALUE, MOST = Integer.MAX_VALUE;
    /** Five columns without rust and a bell only each 30th day, so that nothing comes by itself for a while. */
    static final String QUIET = dry(5) + "b30;";

    private static final String DOCUMENT = document();

    private static String words = "";
    private static int tests;
    private static int answers;
    private static int wrong;

    /** A test of its own for a sentence of the document; its words have to stand there just so. */
    static void sentence(String told, Runnable test) {
        if (DOCUMENT != null && !DOCUMENT.contains(told)) {
            fail("these words do not stand in the document: " + told);
        }
        test(told, test);
    }

    static void test(String name, Runnable test) {
        words = name;
        tests++;
        int before = answers;
        try {
            test.run();
        } catch (RuntimeException thrown) {
            fail("threw " + thrown);
        }
        if (answers == before) {
            fail("nothing was asked");
        }
    }

    static void due(String call, int got, int want) {
        answers++;
        if (got != want) {
            fail(call + " answered " + got + ", due is " + want);
        }
    }

    static void same(String what, String got, String want) {
        answers++;
        if (!got.equals(want)) {
            fail(what + ":\n  " + got + "\n  due is\n  " + want);
        }
    }

    private static void fail(String how) {
        wrong++;
        System.out.println("[" + words + "] " + how);
    }

    /** The last line of each main: ends with 1 if one answer was not the one that is due. */
    static void end() {
        System.out.println(tests + " tests, " + answers + " answers, " + wrong + " not as due");
        if (wrong != 0 || tests == 0) {
            System.exit(1);
        }
    }

    static void writeAll(NailedYears x, String text) {
        for (int k = 0; k < text.length(); k++) {
            x.write(text.charAt(k));
        }
    }

    static NailedYears written(String text) {
        NailedYears x = new NailedYears();
        writeAll(x, text);
        return x;
    }

    static NailedYears laid(String text) {
        NailedYears x = written(text);
        if (x.lay() < 1) {
            fail(text + " was not laid");
        }
        return x;
    }

    static void fault(String text, int place) {
        due("fault() of " + text, written(text).fault(), place);
    }

    static void noFault(String... texts) {
        for (String text : texts) {
            fault(text, NONE);
        }
    }

    /** Each of the texts has its fault in its first item. */
    static void faultAtOnce(String... texts) {
        for (String text : texts) {
            fault(text, 0);
        }
    }

    /** What is so of a nail: how deep, its rust, its year. */
    static void stands(NailedYears x, int i, int deep, int rust, int year) {
        due("nail(" + i + ", 2)", x.nail(i, 2), deep);
        due("nail(" + i + ", 3)", x.nail(i, 3), rust);
        due("nail(" + i + ", 4)", x.nail(i, 4), year);
    }

    static void deep(NailedYears x, int... depths) {
        slots(x, 2, depths);
    }

    static void rust(NailedYears x, int... rusts) {
        slots(x, 3, rusts);
    }

    static void years(NailedYears x, int... deeds) {
        slots(x, 4, deeds);
    }

    /** One slot of nails 0, 1, .. */
    private static void slots(NailedYears x, int what, int... wants) {
        for (int i = 0; i < wants.length; i++) {
            due("nail(" + i + ", " + what + ")", x.nail(i, what), wants[i]);
        }
    }

    /** So many columns without damp. */
    static String dry(int columns) {
        StringBuilder text = new StringBuilder();
        for (int c = 0; c < columns; c++) {
            text.append('d').append(c).append(",0;");
        }
        return text.toString();
    }

    /** All that can be asked, then all that can be undone and given back, then what is laid; within 512 calls. */
    static String everything(NailedYears x) {
        StringBuilder told = new StringBuilder();
        for (int what = 0; what <= 9; what++) {
            told.append(x.count(what)).append(' ');
        }
        tellWall(x, told);
        tellDepths(x, told);
        while (x.undo() >= 0) {
            tellDepths(x, told);
        }
        while (x.back() >= 0) {
            tellDepths(x, told);
        }
        told.append(" measured ").append(x.forget()).append(" laid ").append(x.lay());
        tellDepths(x, told);
        return told.append(" written ").append(x.wipe()).toString();
    }

    private static void tellWall(NailedYears x, StringBuilder told) {
        int nails = x.count(1);
        int cells = x.count(0);
        for (int i = 0; i < nails; i++) {
            told.append(x.nail(i, 0)).append(' ').append(x.nail(i, 1)).append(' ').append(x.kinds(i)).append(' ');
            told.append(x.behind(7, i, 0)).append(' ').append(x.from(i, 4)).append(", ");
        }
        for (int cell = 0; cell < cells; cell++) {
            told.append(x.cell(cell)).append(' ');
        }
        for (int k = 0; k < 6; k++) {
            told.append(x.damp(k)).append(' ').append(x.damps(k)).append(' ').append(x.letOut(k, 0)).append(' ');
        }
        for (int what = 0; what <= 1; what++) {
            told.append(x.first(what)).append(' ').append(x.clash(what)).append(' ').append(x.room(what)).append(' ');
            told.append(x.century(0, 3, what)).append(' ');
        }
        told.append(x.blows(1)).append(' ').append(x.fault());
    }

    private static void tellDepths(NailedYears x, StringBuilder told) {
        told.append(" | days ").append(x.count(4)).append(':');
        int nails = x.count(1);
        for (int i = 0; i < nails; i++) {
            told.append(' ').append(x.nail(i, 2)).append(' ').append(x.nail(i, 3)).append(' ').append(x.nail(i, 4)).append(',');
        }
    }

    static String repeated(String part, int times) {
        return part.repeat(times);
    }

    private static String document() {
        try {
            return Files.readString(Path.of("../shared/DOC.md")).replaceAll("\\s+", " ");
        } catch (IOException missing) {
            System.out.println("no ../shared/DOC.md here: the words of the tests are not held against it");
            return null;
        }
    }
}
