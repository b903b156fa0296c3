import java.util.ArrayList;
import java.util.List;
import java.util.Random;

/** Runs of up to 512 calls, drawn from fixed seeds, each answer held against Reference. */
public final class RandomRuns {
    private static final int RUNS = 800;
    private static final int CALLS = 512;
    private static final int[] WILD = {Integer.MIN_VALUE, Integer.MAX_VALUE, -1, -2, -4, 1 << 30, 37, 61, 63, 64, 100, 201};

    private final Random random;
    private final NailedYears program = new NailedYears();
    private final Reference reference = new Reference();
    private final List<String> log = new ArrayList<>();
    private boolean wrong;

    private RandomRuns(int seed) {
        random = new Random(seed);
    }

    public static void main(String[] args) {
        int failed = 0;
        for (int seed = 1; seed <= RUNS && failed < 3; seed++) {
            RandomRuns run = new RandomRuns(seed);
            try {
                run.go();
            } catch (RuntimeException thrown) {
                run.wrong = true;
                System.out.println("threw " + thrown);
            }
            if (run.wrong) {
                failed++;
                System.out.println("seed " + seed + ": " + String.join(" ", run.log));
            }
        }
        System.out.println(failed == 0 ? "all random runs agree" : "random runs do not agree");
        if (failed != 0) {
            System.exit(1);
        }
    }

    private void go() {
        if (random.nextInt(5) != 0) {
            layAnother();
        }
        while (log.size() < CALLS && !wrong) {
            step();
        }
    }

    private int below(int bound) {
        return random.nextInt(bound);
    }

    /** Mostly a number from 'from' to 'to', now and then one just beside them or a wild one. */
    private int about(int from, int to) {
        int luck = below(100);
        if (luck < 1) {
            return WILD[below(WILD.length)];
        }
        if (luck < 4) {
            return luck == 1 ? from - 1 : to + 1;
        }
        return from + below(to - from + 1);
    }

    private void same(String call, int got, int due) {
        log.add(call + "=" + got);
        if (got != due) {
            wrong = true;
            System.out.println(call + " answered " + got + ", due is " + due);
        }
    }

    private void write(int letter) {
        same("write(" + letter + ")", program.write(letter), reference.write(letter));
    }

    private void writeAll(String letters) {
        for (char letter : letters.toCharArray()) {
            write(letter);
        }
    }

    private void layAnother() {
        same("wipe()", program.wipe(), reference.wipe());
        writeAll(drawText());
        same("fault()", program.fault(), reference.fault());
        same("lay()", program.lay(), reference.lay());
    }

    private String drawText() {
        StringBuilder text = new StringBuilder();
        int rows = 4;
        int columns = 5;
        if (below(4) != 0) {
            rows = about(2, 6);
            columns = about(2, 6);
            text.append('w').append(two(rows)).append(',').append(two(columns)).append(';');
        }
        int crowd = rows < 2 || columns < 2 || rows > 6 || columns > 6 ? 4 : rows * columns;
        int near = below(2) == 0 ? crowd : Math.min(crowd, 9);
        List<Integer> used = new ArrayList<>();
        int nails = below(11);
        for (int k = 0; k < nails; k++) {
            int kind = about(0, 4);
            int x = about(0, near - 1);
            if (below(20) != 0 && used.contains(x)) {
                continue;
            }
            used.add(x);
            int deepest = kind == 2 ? 4 : below(3) == 0 ? 3 : 9;
            text.append('n').append(two(kind)).append(',').append(two(x)).append(',');
            text.append(two(about(1, deepest))).append(',').append(two(about(0, 63))).append(';');
        }
        for (int k = below(5); k > 0; k--) {
            text.append('d').append(two(about(0, Math.max(2, Math.min(6, columns)) - 1))).append(',').append(two(about(0, 9))).append(';');
        }
        for (int k = below(3); k > 0; k--) {
            text.append('b').append(two(below(2) == 0 ? about(1, 30) : about(1, 6))).append(';');
        }
        if (below(12) == 0 && text.length() > 0) {
            text.setCharAt(below(text.length()), "wndb0123456789,;;, xW".charAt(below(21)));
        }
        if (below(25) == 0 && text.length() > 0) {
            text.setLength(below(text.length()));
        }
        return text.length() > 200 ? text.substring(0, 200) : text.toString();
    }

    private String two(int number) {
        return number >= 0 && number < 10 && below(12) == 0 ? "0" + number : String.valueOf(Math.max(0, number));
    }

    private void step() {
        int i = about(0, Math.max(0, reference.count(1) - 1));
        int x = about(0, reference.count(0) - 1);
        switch (below(29)) {
            case 0: if (below(6) == 0) { layAnother(); } break;
            case 1: write(below(3) == 0 ? about(32, 126) : "wndb0123,;".charAt(below(10))); break;
            case 2: if (below(4) == 0) { same("fault()", program.fault(), reference.fault()); } break;
            case 3: look(i); break;
            case 4: same("cell(" + x + ")", program.cell(x), reference.cell(x)); break;
            case 5: column(); break;
            case 6: pass(); break;
            case 7: same("hammer(" + i + ")", program.hammer(i), reference.hammer(i)); break;
            case 8: same("oil(" + i + ")", program.oil(i), reference.oil(i)); break;
            case 9: pull(i); break;
            case 10: drive(x); break;
            case 11: same("undo()", program.undo(), reference.undo()); break;
            case 12: behind(i); break;
            case 13: first(); break;
            case 14: clash(); break;
            case 15: room(); break;
            case 16: blows(); break;
            case 17: letOut(); break;
            case 18: from(i); break;
            case 19: case 20: measure(i); break;
            case 21: if (below(8) == 0) { same("forget()", program.forget(), reference.forget()); } break;
            case 22: same("kinds(" + i + ")", program.kinds(i), reference.kinds(i)); break;
            case 23: column(); break;
            case 24: shaken(i); break;
            case 25: century(); break;
            case 26: if (below(3) == 0) { same("keep()", program.keep(), reference.keep()); } break;
            case 27: if (below(4) == 0) { same("back()", program.back(), reference.back()); } break;
            default: counts();
        }
    }

    private void look(int i) {
        int what = about(0, 5);
        same("nail(" + i + "," + what + ")", program.nail(i, what), reference.nail(i, what));
    }

    private void column() {
        int c = about(0, 5);
        same("damp(" + c + ")", program.damp(c), reference.damp(c));
        same("damps(" + c + ")", program.damps(c), reference.damps(c));
    }

    private void pass() {
        int n = below(4) == 0 ? about(1, 30) : about(1, 3);
        same("pass(" + n + ")", program.pass(n), reference.pass(n));
    }

    private void pull(int i) {
        int k = below(2) == 0 ? about(1, 9) : about(1, 2);
        same("pull(" + i + "," + k + ")", program.pull(i, k), reference.pull(i, k));
    }

    private void drive(int x) {
        int kind = about(0, 4);
        int d = about(1, kind == 2 ? 4 : 9);
        int year = about(0, 63);
        String call = "drive(" + kind + "," + x + "," + d + "," + year + ")";
        same(call, program.drive(kind, x, d, year), reference.drive(kind, x, d, year));
    }

    private void behind(int i) {
        int n = about(0, below(2) == 0 ? 60 : 12);
        int what = about(0, 2);
        same("behind(" + n + "," + i + "," + what + ")", program.behind(n, i, what), reference.behind(n, i, what));
    }

    private void first() {
        int what = about(0, 1);
        same("first(" + what + ")", program.first(what), reference.first(what));
    }

    private void clash() {
        int what = about(0, 1);
        same("clash(" + what + ")", program.clash(what), reference.clash(what));
    }

    private void room() {
        int what = about(0, 1);
        same("room(" + what + ")", program.room(what), reference.room(what));
    }

    private void blows() {
        int n = below(2) == 0 ? about(1, 30) : about(1, 5);
        same("blows(" + n + ")", program.blows(n), reference.blows(n));
    }

    private void letOut() {
        int deed = about(0, 5);
        int what = about(0, 1);
        same("letOut(" + deed + "," + what + ")", program.letOut(deed, what), reference.letOut(deed, what));
    }

    private void from(int i) {
        int deed = about(0, 5);
        same("from(" + i + "," + deed + ")", program.from(i, deed), reference.from(i, deed));
    }

    /** Half of them are measured as they will come, so that some kinds and damps are left. */
    private void measure(int i) {
        int t = about(1, below(2) == 0 ? 30 : 8);
        int k = below(2) == 0 ? about(0, 9) : reference.behind(t, i, 0);
        same("measure(" + i + "," + t + "," + k + ")", program.measure(i, t, k), reference.measure(i, t, k));
    }

    private void shaken(int i) {
        int n = about(0, below(5) == 0 ? 8 : 5);
        int x = about(0, 10);
        int part = about(0, 1);
        String call = "shaken(" + i + "," + n + "," + x + "," + part + ")";
        same(call, program.shaken(i, n, x, part), reference.shaken(i, n, x, part));
    }

    private void century() {
        int z = about(0, 9999);
        int n = about(1, below(2) == 0 ? 60 : 10);
        int what = about(0, 1);
        String call = "century(" + z + "," + n + "," + what + ")";
        same(call, program.century(z, n, what), reference.century(z, n, what));
    }

    private void counts() {
        int what = about(0, 9);
        same("count(" + what + ")", program.count(what), reference.count(what));
        if (below(4) == 0) {
            for (int i = 0; i < reference.count(1); i++) {
                for (int slot = 0; slot < 6; slot++) {
                    same("nail(" + i + "," + slot + ")", program.nail(i, slot), reference.nail(i, slot));
                }
            }
        }
    }
}
