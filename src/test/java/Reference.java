import java.util.ArrayList;
import java.util.HashMap;
import java.util.List;
import java.util.Map;
import java.util.function.IntPredicate;
import java.util.regex.Matcher;
import java.util.regex.Pattern;

/** The document once more, slow and by trying out, to hold the class against it. Slots of a nail: see KIND.. */
final class Reference {
    static final int BAD = -1, NO = -2, FULL = -3, NONE = -4;
    private static final int KIND = 0, CELL = 1, DEEP = 2, RUST = 3, YEAR = 4, BROUGHT = 5;
    private static final Pattern ITEM = Pattern.compile("([wndb])(\\d\\d?(?:,\\d\\d?)*);");

    /** All that KEPT and UNDONE give back. */
    private static final class State {
        int rows = 4, columns = 5, bell = 7, days = 0;
        int[] damp = {1, 1, 1, 1, 1, 1};
        List<int[]> nails = new ArrayList<>();

        State copy() {
            State other = new State();
            other.rows = rows;
            other.columns = columns;
            other.bell = bell;
            other.days = days;
            other.damp = damp.clone();
            for (int[] nail : nails) {
                other.nails.add(nail.clone());
            }
            return other;
        }

        int column(int cell) {
            return cell % columns;
        }

        boolean beside(int a, int b) {
            if (a / columns == b / columns) {
                return Math.abs(a - b) == 1;
            }
            return Math.abs(a - b) == columns;
        }

        int in(int cell) {
            for (int i = 0; i < nails.size(); i++) {
                if (nails.get(i)[CELL] == cell && nails.get(i)[DEEP] > 0) {
                    return i;
                }
            }
            return NONE;
        }

        /** A day by a bell that rings or not; the pairs that gave somebody more deeds. */
        List<Integer> day(boolean rings) {
            days++;
            for (int[] nail : nails) {
                if (nail[DEEP] > 0 && nail[KIND] != 1) {
                    nail[RUST] += damp[column(nail[CELL])];
                    if (nail[RUST] >= 10) {
                        nail[RUST] -= 10;
                        nail[DEEP] -= 1;
                    }
                }
            }
            if (rings) {
                int[] less = new int[nails.size()];
                for (int i = 0; i < nails.size(); i++) {
                    int[] nail = nails.get(i);
                    if (nail[DEEP] == 0) {
                        continue;
                    }
                    less[i] += nail[KIND] == 2 ? 2 : nail[KIND] == 3 ? 0 : 1;
                    if (nail[KIND] == 4 && column(nail[CELL]) + 1 < columns && in(nail[CELL] + 1) != NONE) {
                        less[in(nail[CELL] + 1)] += 1;
                    }
                }
                for (int i = 0; i < less.length; i++) {
                    nails.get(i)[DEEP] = Math.max(0, nails.get(i)[DEEP] - less[i]);
                }
            }
            for (int[] nail : nails) {
                if (nail[DEEP] == 0) {
                    nail[RUST] = 0;
                    nail[YEAR] = 0;
                }
            }
            return mix();
        }

        private List<Integer> mix() {
            List<Integer> more = new ArrayList<>();
            for (int i = 0; i < nails.size(); i++) {
                for (int j = i + 1; j < nails.size(); j++) {
                    int[] a = nails.get(i);
                    int[] b = nails.get(j);
                    if (loose(a) && loose(b) && beside(a[CELL], b[CELL])) {
                        int before = Integer.bitCount(a[YEAR]) + Integer.bitCount(b[YEAR]);
                        a[YEAR] |= b[YEAR];
                        b[YEAR] |= a[YEAR];
                        if (Integer.bitCount(a[YEAR]) + Integer.bitCount(b[YEAR]) > before) {
                            more.add(10 * i + j);
                        }
                    }
                }
            }
            return more;
        }

        List<Integer> day() {
            return day((days + 1) % bell == 0);
        }

        State after(int n) {
            State later = copy();
            for (int k = 0; k < n; k++) {
                later.day();
            }
            return later;
        }
    }

    private final StringBuilder text = new StringBuilder();
    private State now = parse("w4,5;n0,0,6,1;n1,1,5,2;n2,6,4,12;n3,7,2,16;n4,12,7,33;n0,13,3,8;d0,2;d1,3;d2,4;b5;");
    private final List<State> past = new ArrayList<>();
    private final List<State> kept = new ArrayList<>();
    private final List<int[]> measured = new ArrayList<>();
    private int fault = NONE;

    private static boolean loose(int[] nail) {
        return nail[DEEP] == 1 || nail[DEEP] == 2;
    }

    private static int deepest(int kind) {
        return kind == 2 ? 4 : 9;
    }

    private State parse(String letters) {
        State state = new State();
        fault = NONE;
        boolean others = false;
        int at = 0;
        while (at < letters.length()) {
            Matcher item = ITEM.matcher(letters).region(at, letters.length());
            if (!item.lookingAt() || !put(state, item.group(1).charAt(0), item.group(2), others)) {
                fault = at;
                return null;
            }
            others |= item.group(1).charAt(0) != 'w';
            at = item.end();
        }
        return state;
    }

    private static boolean put(State state, char letter, String list, boolean others) {
        String[] parts = list.split(",");
        int[] v = new int[parts.length];
        for (int k = 0; k < v.length; k++) {
            v[k] = Integer.parseInt(parts[k]);
        }
        switch (letter) {
            case 'w':
                if (v.length != 2 || others || v[0] < 2 || v[0] > 6 || v[1] < 2 || v[1] > 6) {
                    return false;
                }
                state.rows = v[0];
                state.columns = v[1];
                return true;
            case 'n':
                if (v.length != 4 || v[0] > 4 || v[1] >= state.rows * state.columns || v[2] < 1
                        || v[2] > deepest(v[0]) || v[3] > 63 || state.nails.size() == 9 || state.in(v[1]) != NONE) {
                    return false;
                }
                state.nails.add(new int[] {v[0], v[1], v[2], 0, v[3], v[3]});
                return true;
            case 'd':
                if (v.length != 2 || v[0] >= state.columns || v[1] > 9) {
                    return false;
                }
                state.damp[v[0]] = v[1];
                return true;
            default:
                if (v.length != 1 || v[0] < 1 || v[0] > 30) {
                    return false;
                }
                state.bell = v[0];
                return true;
        }
    }

    private boolean none(int i) {
        return i < 0 || i >= now.nails.size();
    }

    private void remember() {
        past.add(now.copy());
        if (past.size() > 8) {
            past.remove(0);
        }
    }

    int write(int letter) {
        if (letter < 32 || letter > 126) {
            return BAD;
        }
        if (text.length() == 200) {
            return FULL;
        }
        return text.append((char) letter).length();
    }

    int wipe() {
        int was = text.length();
        text.setLength(0);
        return was;
    }

    int fault() {
        parse(text.toString());
        return fault;
    }

    int lay() {
        State state = parse(text.toString());
        if (state == null || state.nails.isEmpty()) {
            return NO;
        }
        now = state;
        past.clear();
        kept.clear();
        measured.clear();
        return now.nails.size();
    }

    int nail(int i, int what) {
        if (none(i) || what < 0 || what > 5) {
            return BAD;
        }
        return what == 5 ? loose(now.nails.get(i)) ? 1 : 0 : now.nails.get(i)[what];
    }

    int cell(int x) {
        return x < 0 || x >= now.rows * now.columns ? BAD : now.in(x);
    }

    int damp(int c) {
        return c < 0 || c >= now.columns ? BAD : now.damp[c];
    }

    int pass(int n) {
        if (n < 1 || n > 30) {
            return BAD;
        }
        remember();
        now = now.after(n);
        return now.days;
    }

    private static void strike(int[] nail) {
        nail[DEEP] = Math.min(nail[DEEP] + 2, deepest(nail[KIND]));
    }

    int hammer(int i) {
        if (none(i)) {
            return BAD;
        }
        if (now.nails.get(i)[KIND] == 3 || now.nails.get(i)[DEEP] == 0) {
            return NO;
        }
        remember();
        strike(now.nails.get(i));
        return now.nails.get(i)[DEEP];
    }

    int oil(int i) {
        if (none(i)) {
            return BAD;
        }
        if (now.nails.get(i)[DEEP] == 0) {
            return NO;
        }
        remember();
        int was = now.nails.get(i)[RUST];
        now.nails.get(i)[RUST] = 0;
        return was;
    }

    int pull(int i, int k) {
        if (none(i) || k < 1 || k > 9) {
            return BAD;
        }
        int[] nail = now.nails.get(i);
        if (nail[DEEP] == 0 || nail[DEEP] < k) {
            return NO;
        }
        remember();
        nail[DEEP] -= k;
        if (nail[DEEP] == 0) {
            nail[RUST] = 0;
            nail[YEAR] = 0;
        }
        return nail[DEEP];
    }

    int drive(int kind, int x, int d, int year) {
        if (kind < 0 || kind > 4 || x < 0 || x >= now.rows * now.columns || d < 1 || d > deepest(kind)
                || year < 0 || year > 63) {
            return BAD;
        }
        if (now.in(x) != NONE) {
            return NO;
        }
        if (now.nails.size() == 9) {
            return FULL;
        }
        remember();
        now.nails.add(new int[] {kind, x, d, 0, year, year});
        return now.nails.size() - 1;
    }

    int undo() {
        if (past.isEmpty()) {
            return NO;
        }
        now = past.remove(past.size() - 1);
        return past.size();
    }

    int behind(int n, int i, int what) {
        if (n < 0 || n > 60 || none(i) || what < 0 || what > 2) {
            return BAD;
        }
        return now.after(n).nails.get(i)[DEEP + what];
    }

    int first(int what) {
        if (what != 0 && what != 1) {
            return BAD;
        }
        for (int n = 0; n <= 60; n++) {
            List<int[]> later = now.after(n).nails;
            for (int i = 0; i < later.size(); i++) {
                if (loose(later.get(i))) {
                    return what == 0 ? i : n;
                }
            }
        }
        return NONE;
    }

    int clash(int what) {
        if (what != 0 && what != 1) {
            return BAD;
        }
        for (int n = 1; n <= 60; n++) {
            List<Integer> more = now.after(n - 1).day();
            if (!more.isEmpty()) {
                return what == 0 ? more.get(0) : n;
            }
        }
        return NONE;
    }

    private boolean open(int x) {
        boolean open = now.in(x) == NONE;
        for (int y = 0; y < now.rows * now.columns; y++) {
            open &= !now.beside(x, y) || now.in(y) == NONE;
        }
        return open;
    }

    private long without(long cells, int x) {
        long rest = cells & ~(1L << x);
        for (int y = 0; y < now.rows * now.columns; y++) {
            if (now.beside(x, y)) {
                rest &= ~(1L << y);
            }
        }
        return rest;
    }

    private int most(long cells, Map<Long, Integer> known) {
        if (cells == 0) {
            return 0;
        }
        Integer already = known.get(cells);
        if (already != null) {
            return already;
        }
        int x = Long.numberOfTrailingZeros(cells);
        int best = Math.max(most(cells & ~(1L << x), known), 1 + most(without(cells, x), known));
        known.put(cells, best);
        return best;
    }

    int room(int what) {
        if (what != 0 && what != 1) {
            return BAD;
        }
        long cells = 0;
        for (int x = 0; x < now.rows * now.columns; x++) {
            cells |= open(x) ? 1L << x : 0;
        }
        Map<Long, Integer> known = new HashMap<>();
        int best = most(cells, known);
        if (what == 0) {
            return best;
        }
        for (int x = 0; x < now.rows * now.columns; x++) {
            if ((cells >> x & 1) != 0 && 1 + most(without(cells, x), known) == best) {
                return x;
            }
        }
        return NONE;
    }

    int blows(int n) {
        if (n < 1 || n > 30) {
            return BAD;
        }
        int all = 0;
        for (int i = 0; i < now.nails.size(); i++) {
            if (now.nails.get(i)[DEEP] < 3) {
                continue;
            }
            int some = 0;
            while (!firmAll(i, some, n)) {
                some++;
                if (some > 9 || now.nails.get(i)[KIND] == 3) {
                    return NONE;
                }
            }
            all += some;
        }
        return all;
    }

    private boolean firmAll(int i, int blows, int n) {
        State struck = now.copy();
        for (int b = 0; b < blows; b++) {
            strike(struck.nails.get(i));
        }
        for (int k = 0; k < n; k++) {
            struck.day();
            if (struck.nails.get(i)[DEEP] < 3) {
                return false;
            }
        }
        return true;
    }

    int letOut(int deed, int what) {
        if (deed < 0 || deed > 5 || what != 0 && what != 1) {
            return BAD;
        }
        for (int k = 0; k <= 7; k++) {
            for (int i = 0; i < now.nails.size(); i++) {
                int[] nail = now.nails.get(i);
                if ((nail[YEAR] >> deed & 1) != 0 && nail[DEEP] - k <= 2) {
                    return what == 0 ? i : k;
                }
            }
        }
        return NONE;
    }

    int from(int i, int deed) {
        if (none(i) || deed < 0 || deed > 5) {
            return BAD;
        }
        if ((now.nails.get(i)[YEAR] >> deed & 1) == 0) {
            return NO;
        }
        boolean[] hangs = new boolean[9];
        hang(i, hangs);
        int bits = 0;
        for (int j = 0; j < now.nails.size(); j++) {
            if (hangs[j] && (now.nails.get(j)[BROUGHT] >> deed & 1) != 0) {
                bits += 1 << j;
            }
        }
        return bits;
    }

    private void hang(int i, boolean[] hangs) {
        hangs[i] = true;
        for (int j = 0; j < now.nails.size(); j++) {
            int a = now.nails.get(i)[CELL];
            int b = now.nails.get(j)[CELL];
            if (!hangs[j] && (a == b || now.beside(a, b))) {
                hang(j, hangs);
            }
        }
    }

    int measure(int i, int t, int k) {
        if (none(i) || t < 1 || t > 30 || k < 0 || k > 9) {
            return BAD;
        }
        if (measured.size() == 6) {
            return FULL;
        }
        measured.add(new int[] {i, t, k});
        return measured.size();
    }

    int forget() {
        int were = measured.size();
        measured.clear();
        return were;
    }

    private boolean so(State from, IntPredicate chosen) {
        for (int[] m : measured) {
            if (chosen.test(m[0]) && from.after(m[1]).nails.get(m[0])[DEEP] != m[2]) {
                return false;
            }
        }
        return true;
    }

    int kinds(int i) {
        if (none(i)) {
            return BAD;
        }
        if (now.nails.get(i)[DEEP] == 0) {
            return NO;
        }
        int bits = 0;
        for (int kind = 0; kind < 5; kind++) {
            State other = now.copy();
            other.nails.get(i)[KIND] = kind;
            bits += so(other, j -> j == i) ? 1 << kind : 0;
        }
        return bits;
    }

    int damps(int c) {
        if (c < 0 || c >= now.columns) {
            return BAD;
        }
        int bits = 0;
        for (int damp = 0; damp < 10; damp++) {
            State other = now.copy();
            other.damp[c] = damp;
            bits += so(other, j -> j < now.nails.size() && now.nails.get(j)[CELL] % now.columns == c) ? 1 << damp : 0;
        }
        return bits;
    }

    int shaken(int i, int n, int x, int part) {
        if (none(i) || n < 0 || n > 8 || x < 0 || x > 10 || part != 0 && part != 1) {
            return BAD;
        }
        if (now.nails.get(i)[DEEP] == 0) {
            return NO;
        }
        long above = 0;
        for (int course = 0; course < 1 << n; course++) {
            State later = now.copy();
            long weight = 1;
            for (int k = 0; k < n; k++) {
                boolean rings = (course >> k & 1) != 0;
                later.day(rings);
                weight *= rings ? x : 10 - x;
            }
            above += later.nails.get(i)[DEEP] >= 3 ? weight : 0;
        }
        long below = Math.round(Math.pow(10, n));
        for (int prime : new int[] {2, 5}) {
            while (above % prime == 0 && below % prime == 0) {
                above /= prime;
                below /= prime;
            }
        }
        return (int) (part == 0 ? above : below);
    }

    private static long draw(int z, int k, int c) {
        long x = 7919L * z + 6151L * k + 331L * c + 1;
        return (x * x) % 65521 / 8;
    }

    int century(int z, int n, int what) {
        if (z < 0 || z > 9999 || n < 1 || n > 60 || what != 0 && what != 1) {
            return BAD;
        }
        State later = now.copy();
        for (int k = 0; k < n; k++) {
            for (int c = 0; c < later.columns; c++) {
                later.damp[c] = (int) (draw(z, k, c) % 10);
            }
            later.day(draw(z, k, 0) / 16 % 4 == 0);
        }
        int out = 0;
        int loose = 0;
        for (int i = 0; i < later.nails.size(); i++) {
            out += later.nails.get(i)[DEEP] == 0 && now.nails.get(i)[DEEP] > 0 ? 1 : 0;
            loose += loose(later.nails.get(i)) ? 1 : 0;
        }
        return what == 0 ? out : loose;
    }

    int keep() {
        if (kept.size() == 2) {
            return FULL;
        }
        kept.add(now.copy());
        return kept.size();
    }

    int back() {
        if (kept.isEmpty()) {
            return NO;
        }
        now = kept.remove(kept.size() - 1);
        past.clear();
        return kept.size();
    }

    int count(int what) {
        int out = 0;
        int loose = 0;
        for (int[] nail : now.nails) {
            out += nail[DEEP] == 0 ? 1 : 0;
            loose += loose(nail) ? 1 : 0;
        }
        int[] all = {now.rows * now.columns, now.nails.size(), out, loose, now.days, now.bell,
            measured.size(), past.size(), kept.size(), text.length()};
        return what < 0 || what >= all.length ? BAD : all[what];
    }
}
