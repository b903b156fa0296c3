/**
 * Nails hold years: at the year's end the year is nailed to the church wall, and it is the nail
 * that keeps it. What each call answers is told in DOC.md, promise by promise.
 */
public final class NailedYears {
    public static final int BAD = -1, NO = -2, FULL = -3, NONE = -4;

    private static final int SILVER = 1, HORSESHOE = 2, BENT = 3, CROOKED = 4;
    private static final int NAIL_KINDS = 5;
    private static final int NAILS = 9;
    private static final int SHORTEST_SIDE = 2, LONGEST_SIDE = 6;
    private static final int DEEPEST = 9, DEEPEST_HORSESHOE = 4, FIRM = 3;
    private static final int BLOW = 2;
    private static final int DEEDS = 6, FULLEST_YEAR = 63;
    private static final int DAMPEST = 9, RUST_THROUGH = 10;
    private static final int LONGEST_BELL = 30;
    private static final int LETTERS = 200, FIRST_LETTER = 32, LAST_LETTER = 126;
    private static final int LONGEST_PASS = 30, FORESEEN = 60;
    private static final int UNDOABLE = 8, KEEPABLE = 2, MEASURABLE = 6;
    private static final int LONGEST_MEASURE = 30;
    private static final int SHAKEN_DAYS = 8, TENTHS = 10;
    private static final int CENTURIES = 9999, LONGEST_CENTURY = 60;
    // More than any nail can lose in the days that are ever looked ahead.
    private static final int BOTTOMLESS = 1000;

    private static final String FIRST_TEXT =
        "w4,5;n0,0,6,1;n1,1,5,2;n2,6,4,12;n3,7,2,16;n4,12,7,33;n0,13,3,8;d0,2;d1,3;d2,4;b5;";

    private final Text text = new Text();
    private final Items items = new Items();
    private final Wall now = firstWall();
    private final Wall ahead = new Wall();
    private final Walls past = new Walls(UNDOABLE);
    private final Walls kept = new Walls(KEEPABLE);
    private final Walls courses = new Walls(SHAKEN_DAYS);
    private final Measures measured = new Measures();
    private final Gaps gaps = new Gaps();

    public NailedYears() {
    }

    // ---- walls

    public int write(int letter) {
        if (letter < FIRST_LETTER || letter > LAST_LETTER) {
            return BAD;
        }
        if (text.isFull()) {
            return FULL;
        }
        text.add(letter);
        return text.length;
    }

    public int wipe() {
        int was = text.length;
        text.clear();
        return was;
    }

    public int fault() {
        return items.readInto(text, ahead);
    }

    public int lay() {
        if (items.readInto(text, ahead) != NONE || ahead.size < 1) {
            return NO;
        }
        now.copy(ahead);
        past.clear();
        kept.clear();
        measured.clear();
        return now.size;
    }

    public int nail(int i, int what) {
        if (!now.hasNail(i)) {
            return BAD;
        }
        Nail one = now.at(i);
        switch (what) {
            case 0: return one.kind;
            case 1: return now.cellOf(one);
            case 2: return one.deep;
            case 3: return one.rust;
            case 4: return one.year;
            case 5: return one.isLoose() ? 1 : 0;
            default: return BAD;
        }
    }

    public int cell(int x) {
        if (!now.hasCell(x)) {
            return BAD;
        }
        return now.nailIn(now.rowOf(x), now.columnOf(x));
    }

    public int damp(int c) {
        return now.hasColumn(c) ? now.dampOf(c) : BAD;
    }

    // ---- days

    public int pass(int n) {
        if (n < 1 || n > LONGEST_PASS) {
            return BAD;
        }
        past.put(now);
        for (int day = 0; day < n; day++) {
            now.passDay(now.ringsNextDay());
        }
        return now.days;
    }

    public int hammer(int i) {
        if (!now.hasNail(i)) {
            return BAD;
        }
        Nail one = now.at(i);
        if (one.kind == BENT || one.isOut()) {
            return NO;
        }
        past.put(now);
        one.deep = Math.min(one.deep + BLOW, one.deepest());
        return one.deep;
    }

    public int oil(int i) {
        if (!now.hasNail(i)) {
            return BAD;
        }
        Nail one = now.at(i);
        if (one.isOut()) {
            return NO;
        }
        past.put(now);
        int was = one.rust;
        one.rust = 0;
        return was;
    }

    public int pull(int i, int k) {
        if (!now.hasNail(i) || k < 1 || k > DEEPEST) {
            return BAD;
        }
        Nail one = now.at(i);
        if (one.deep < k) {
            return NO;
        }
        past.put(now);
        one.lose(k);
        one.leaveIfOut();
        return one.deep;
    }

    public int drive(int kind, int x, int d, int year) {
        if (!isKind(kind) || !now.hasCell(x) || !isDepth(kind, d) || !isYear(year)) {
            return BAD;
        }
        if (!now.isFree(x)) {
            return NO;
        }
        if (now.isFull()) {
            return FULL;
        }
        past.put(now);
        now.add(kind, x, d, year);
        return now.size - 1;
    }

    public int undo() {
        if (past.size < 1) {
            return NO;
        }
        past.takeInto(now);
        return past.size;
    }

    // ---- what comes

    public int behind(int n, int i, int what) {
        if (n < 0 || n > FORESEEN || !now.hasNail(i) || what < 0 || what > 2) {
            return BAD;
        }
        lookAhead(n);
        Nail one = ahead.at(i);
        return what == 0 ? one.deep : what == 1 ? one.rust : one.year;
    }

    public int first(int what) {
        if (what != 0 && what != 1) {
            return BAD;
        }
        ahead.copy(now);
        for (int day = 0; day <= FORESEEN; day++) {
            int loose = ahead.lowestLoose();
            if (loose != NONE) {
                return what == 0 ? loose : day;
            }
            ahead.passDay(ahead.ringsNextDay());
        }
        return NONE;
    }

    public int clash(int what) {
        if (what != 0 && what != 1) {
            return BAD;
        }
        ahead.copy(now);
        for (int day = 1; day <= FORESEEN; day++) {
            int two = ahead.passDay(ahead.ringsNextDay());
            if (two != NONE) {
                return what == 0 ? two : day;
            }
        }
        return NONE;
    }

    public int room(int what) {
        if (what != 0 && what != 1) {
            return BAD;
        }
        int most = gaps.mostIn(now);
        if (what == 0) {
            return most;
        }
        return most == 0 ? NONE : gaps.lowestOf(most, now);
    }

    public int blows(int n) {
        if (n < 1 || n > LONGEST_PASS) {
            return BAD;
        }
        int all = 0;
        for (int i = 0; i < now.size; i++) {
            if (now.at(i).deep >= FIRM) {
                int some = blowsAgainst(lossOf(i, n), now.at(i));
                if (some == NONE) {
                    return NONE;
                }
                all += some;
            }
        }
        return all;
    }

    public int letOut(int deed, int what) {
        if (!isDeed(deed) || what != 0 && what != 1) {
            return BAD;
        }
        int best = NONE;
        int least = BOTTOMLESS;
        for (int i = 0; i < now.size; i++) {
            Nail one = now.at(i);
            if (has(one.year, deed) && one.pullToLoose() < least) {
                best = i;
                least = one.pullToLoose();
            }
        }
        return best == NONE || what == 0 ? best : least;
    }

    // ---- what was

    public int from(int i, int deed) {
        if (!now.hasNail(i) || !isDeed(deed)) {
            return BAD;
        }
        if (!has(now.at(i).year, deed)) {
            return NO;
        }
        return now.hangingWith(i) & now.broughtBy(deed);
    }

    public int measure(int i, int t, int k) {
        if (!now.hasNail(i) || t < 1 || t > LONGEST_MEASURE || k < 0 || k > DEEPEST) {
            return BAD;
        }
        if (measured.isFull()) {
            return FULL;
        }
        measured.add(i, t, k);
        return measured.size;
    }

    public int forget() {
        int were = measured.size;
        measured.clear();
        return were;
    }

    public int kinds(int i) {
        if (!now.hasNail(i)) {
            return BAD;
        }
        if (now.at(i).isOut()) {
            return NO;
        }
        int bits = 0;
        for (int kind = 0; kind < NAIL_KINDS; kind++) {
            ahead.copy(now);
            ahead.at(i).kind = kind;
            if (comesAsMeasured(1 << i)) {
                bits |= 1 << kind;
            }
        }
        return bits;
    }

    public int damps(int c) {
        if (!now.hasColumn(c)) {
            return BAD;
        }
        int chosen = now.nailsOfColumn(c);
        int bits = 0;
        for (int damp = 0; damp <= DAMPEST; damp++) {
            ahead.copy(now);
            ahead.setDamp(c, damp);
            if (comesAsMeasured(chosen)) {
                bits |= 1 << damp;
            }
        }
        return bits;
    }

    // ---- bells, centuries

    public int shaken(int i, int n, int x, int part) {
        if (!now.hasNail(i) || n < 0 || n > SHAKEN_DAYS || x < 0 || x > TENTHS || part != 0 && part != 1) {
            return BAD;
        }
        if (now.at(i).isOut()) {
            return NO;
        }
        int above = firmCourses(courses, now, i, n, x);
        int below = tenTo(n);
        int common = greatestCommon(above, below);
        if (common < 1) {
            return part == 0 ? above : below;
        }
        return part == 0 ? above / common : below / common;
    }

    public int century(int z, int n, int what) {
        if (z < 0 || z > CENTURIES || n < 1 || n > LONGEST_CENTURY || what != 0 && what != 1) {
            return BAD;
        }
        ahead.copy(now);
        for (int k = 0; k < n; k++) {
            for (int c = 0; c < ahead.columns; c++) {
                ahead.setDamp(c, draw(z, k, c) % 10);
            }
            ahead.passDay(draw(z, k, 0) / 16 % 4 == 0);
        }
        return what == 0 ? ahead.howManyOut() - now.howManyOut() : ahead.howManyLoose();
    }

    public int keep() {
        if (kept.isFull()) {
            return FULL;
        }
        kept.put(now);
        return kept.size;
    }

    public int back() {
        if (kept.size < 1) {
            return NO;
        }
        kept.takeInto(now);
        past.clear();
        return kept.size;
    }

    public int count(int what) {
        switch (what) {
            case 0: return now.cells();
            case 1: return now.size;
            case 2: return now.howManyOut();
            case 3: return now.howManyLoose();
            case 4: return now.days;
            case 5: return now.bell;
            case 6: return measured.size;
            case 7: return past.size;
            case 8: return kept.size;
            case 9: return text.length;
            default: return BAD;
        }
    }

    // ---- what the calls above need

    private static Wall firstWall() {
        Text first = new Text();
        for (int k = 0; k < FIRST_TEXT.length(); k++) {
            first.add(FIRST_TEXT.charAt(k));
        }
        Wall wall = new Wall();
        new Items().readInto(first, wall);
        return wall;
    }

    private static boolean isKind(int kind) {
        return kind >= 0 && kind < NAIL_KINDS;
    }

    private static boolean isDepth(int kind, int d) {
        return d >= 1 && d <= deepestOf(kind);
    }

    private static boolean isYear(int year) {
        return year >= 0 && year <= FULLEST_YEAR;
    }

    private static boolean isDeed(int deed) {
        return deed >= 0 && deed < DEEDS;
    }

    private static boolean isSide(int side) {
        return side >= SHORTEST_SIDE && side <= LONGEST_SIDE;
    }

    private static int deepestOf(int kind) {
        return kind == HORSESHOE ? DEEPEST_HORSESHOE : DEEPEST;
    }

    private static boolean has(int bits, int which) {
        return (bits >> which & 1) != 0;
    }

    private void lookAhead(int days) {
        ahead.copy(now);
        for (int day = 0; day < days; day++) {
            ahead.passDay(ahead.ringsNextDay());
        }
    }

    /** What a nail loses does not hang on how deep it is as long as it holds, so one that always holds tells it. */
    private int lossOf(int i, int days) {
        ahead.copy(now);
        ahead.at(i).deep = BOTTOMLESS;
        for (int day = 0; day < days; day++) {
            ahead.passDay(ahead.ringsNextDay());
        }
        return BOTTOMLESS - ahead.at(i).deep;
    }

    private static int blowsAgainst(int loss, Nail one) {
        int needed = FIRM + loss;
        if (one.deep >= needed) {
            return 0;
        }
        if (one.kind == BENT || one.deepest() < needed) {
            return NONE;
        }
        return (needed - one.deep + BLOW - 1) / BLOW;
    }

    /** Whether the wall ahead goes on as was measured of the chosen nails (bits). */
    private boolean comesAsMeasured(int chosen) {
        int last = measured.lastDayOf(chosen);
        for (int day = 1; day <= last; day++) {
            ahead.passDay(ahead.ringsNextDay());
            if (!measured.holdOn(day, chosen, ahead)) {
                return false;
            }
        }
        return true;
    }

    /** Of the ten to the power of 'left' equal courses of the bell: those behind which the nail is firm. */
    private static int firmCourses(Walls courses, Wall wall, int i, int left, int x) {
        // A nail never gets deeper by itself, so one that is not firm now is not so later.
        if (wall.at(i).deep < FIRM) {
            return 0;
        }
        if (left < 1) {
            return 1;
        }
        Wall next = courses.at(left - 1);
        if (next == null) {
            return 0;
        }
        int firm = 0;
        if (x > 0) {
            next.copy(wall);
            next.passDay(true);
            firm += x * firmCourses(courses, next, i, left - 1, x);
        }
        if (x < TENTHS) {
            next.copy(wall);
            next.passDay(false);
            firm += (TENTHS - x) * firmCourses(courses, next, i, left - 1, x);
        }
        return firm;
    }

    private static int tenTo(int n) {
        int power = 1;
        for (int k = 0; k < n; k++) {
            power *= TENTHS;
        }
        return power;
    }

    private static int greatestCommon(int a, int b) {
        int greater = a;
        int lesser = b;
        for (int turn = 0; turn < 100 && lesser != 0; turn++) {
            int rest = greater % lesser;
            greater = lesser;
            lesser = rest;
        }
        return greater;
    }

    private static int draw(int z, int k, int c) {
        long x = 7919L * z + 6151L * k + 331L * c + 1L;
        return (int) (x * x % 65521L / 8L);
    }

    /** THE TEXT: its letters, and how many there are. */
    private static final class Text {
        private final int[] letters = new int[LETTERS];
        private int length;

        boolean isFull() {
            return length >= letters.length;
        }

        void add(int letter) {
            if (length >= 0 && length < letters.length) {
                letters[length] = letter;
                length++;
            }
        }

        /** The letter in a place, or 0, which is none, behind the last one. */
        int letterAt(int place) {
            return place >= 0 && place < length && place < letters.length ? letters[place] : 0;
        }

        void clear() {
            length = 0;
        }
    }

    /** Reads a text item by item onto a wall. */
    private static final class Items {
        private static final int MOST_NUMBERS = 4;

        private final int[] numbers = new int[MOST_NUMBERS];
        private int found;
        private boolean onlyWalls;

        /** The place of the fault, or NONE; behind a fault the wall holds what came ahead of it. */
        int readInto(Text text, Wall wall) {
            wall.clear();
            onlyWalls = true;
            int place = 0;
            for (int turn = 0; turn < LETTERS && place < text.length; turn++) {
                int behind = readNumbers(text, place + 1);
                if (behind == NONE || !takeItem(text.letterAt(place), wall)) {
                    return place;
                }
                place = behind;
            }
            return NONE;
        }

        /** The place behind the ; of the numbers that begin at a place, or NONE if they are not so. */
        private int readNumbers(Text text, int from) {
            int place = from;
            found = 0;
            for (int k = 0; k < numbers.length; k++) {
                int value = figure(text.letterAt(place));
                if (value < 0) {
                    return NONE;
                }
                place++;
                int second = figure(text.letterAt(place));
                if (second >= 0) {
                    value = 10 * value + second;
                    place++;
                }
                numbers[k] = value;
                found = k + 1;
                int end = text.letterAt(place);
                place++;
                if (end == ';') {
                    return place;
                }
                if (end != ',') {
                    return NONE;
                }
            }
            return NONE;
        }

        private static int figure(int letter) {
            return letter >= '0' && letter <= '9' ? letter - '0' : -1;
        }

        private int number(int k) {
            return k >= 0 && k < found && k < numbers.length ? numbers[k] : -1;
        }

        private boolean takeItem(int letter, Wall wall) {
            if (letter == 'w') {
                return takeWall(wall);
            }
            onlyWalls = false;
            switch (letter) {
                case 'n': return takeNail(wall);
                case 'd': return takeDamp(wall);
                case 'b': return takeBell(wall);
                default: return false;
            }
        }

        private boolean takeWall(Wall wall) {
            if (found != 2 || !onlyWalls || !isSide(number(0)) || !isSide(number(1))) {
                return false;
            }
            wall.rows = number(0);
            wall.columns = number(1);
            return true;
        }

        private boolean takeNail(Wall wall) {
            if (found != 4 || wall.isFull() || !isKind(number(0)) || !wall.hasCell(number(1))) {
                return false;
            }
            if (!wall.isFree(number(1)) || !isDepth(number(0), number(2)) || !isYear(number(3))) {
                return false;
            }
            wall.add(number(0), number(1), number(2), number(3));
            return true;
        }

        private boolean takeDamp(Wall wall) {
            if (found != 2 || !wall.hasColumn(number(0)) || number(1) > DAMPEST) {
                return false;
            }
            wall.setDamp(number(0), number(1));
            return true;
        }

        private boolean takeBell(Wall wall) {
            if (found != 1 || number(0) < 1 || number(0) > LONGEST_BELL) {
                return false;
            }
            wall.bell = number(0);
            return true;
        }
    }

    /** One nail; one that is out stays where it was, 0 deep. */
    private static final class Nail {
        private int kind, row, column, deep, rust, year;
        // The deeds that its year had when it was laid or driven.
        private int brought;

        void copy(Nail other) {
            kind = other.kind;
            row = other.row;
            column = other.column;
            deep = other.deep;
            rust = other.rust;
            year = other.year;
            brought = other.brought;
        }

        boolean isOut() {
            return deep < 1;
        }

        boolean isLoose() {
            return deep > 0 && deep < FIRM;
        }

        int deepest() {
            return deepestOf(kind);
        }

        int pullToLoose() {
            return Math.max(0, deep - FIRM + 1);
        }

        void lose(int much) {
            deep = Math.max(0, deep - much);
        }

        void leaveIfOut() {
            if (isOut()) {
                rust = 0;
                year = 0;
            }
        }

        void rustBy(int damp) {
            if (kind == SILVER || isOut()) {
                return;
            }
            rust += damp;
            if (rust >= RUST_THROUGH) {
                rust -= RUST_THROUGH;
                lose(1);
            }
        }

        void shake() {
            if (kind != BENT) {
                lose(kind == HORSESHOE ? 2 : 1);
            }
        }

        /** How many steps from cell to cell: 0 in one cell, 1 beside each other. */
        int stepsTo(Nail other) {
            return Math.abs(row - other.row) + Math.abs(column - other.column);
        }
    }

    /** A wall as it stands: its cells, damp, bell and nails, and the days that have gone by. */
    private static final class Wall {
        private final Nail[] nails = new Nail[NAILS];
        // Stands for the nail of a number that no nail has.
        private final Nail nobody = new Nail();
        private final int[] damps = new int[LONGEST_SIDE];
        private int rows, columns, bell, days, size;

        Wall() {
            for (int i = 0; i < nails.length; i++) {
                nails[i] = new Nail();
            }
            clear();
        }

        void clear() {
            rows = 4;
            columns = 5;
            bell = 7;
            days = 0;
            size = 0;
            for (int c = 0; c < damps.length; c++) {
                damps[c] = 1;
            }
        }

        void copy(Wall other) {
            rows = other.rows;
            columns = other.columns;
            bell = other.bell;
            days = other.days;
            size = other.size;
            for (int c = 0; c < damps.length; c++) {
                damps[c] = other.dampOf(c);
            }
            for (int i = 0; i < size; i++) {
                at(i).copy(other.at(i));
            }
        }

        Nail at(int i) {
            Nail one = i >= 0 && i < nails.length ? nails[i] : nobody;
            return one == null ? nobody : one;
        }

        boolean hasNail(int i) {
            return i >= 0 && i < size;
        }

        boolean hasColumn(int c) {
            return c >= 0 && c < columns;
        }

        boolean hasCell(int x) {
            return x >= 0 && x < cells();
        }

        boolean isFull() {
            return size >= nails.length;
        }

        boolean isFree(int x) {
            return nailIn(rowOf(x), columnOf(x)) == NONE;
        }

        int cells() {
            return rows * columns;
        }

        int rowOf(int x) {
            return columns > 0 ? x / columns : 0;
        }

        int columnOf(int x) {
            return columns > 0 ? x % columns : 0;
        }

        int cellOf(Nail one) {
            return one.row * columns + one.column;
        }

        int dampOf(int c) {
            return c >= 0 && c < damps.length ? damps[c] : 0;
        }

        void setDamp(int c, int damp) {
            if (c >= 0 && c < damps.length) {
                damps[c] = damp;
            }
        }

        void add(int kind, int x, int d, int year) {
            if (isFull()) {
                return;
            }
            Nail one = at(size);
            one.kind = kind;
            one.row = rowOf(x);
            one.column = columnOf(x);
            one.deep = d;
            one.rust = 0;
            one.year = year;
            one.brought = year;
            size++;
        }

        /** The number of the nail that holds in a cell, or NONE. */
        int nailIn(int row, int column) {
            for (int i = 0; i < size; i++) {
                Nail one = at(i);
                if (one.row == row && one.column == column && !one.isOut()) {
                    return i;
                }
            }
            return NONE;
        }

        boolean ringsNextDay() {
            return bell > 0 && (days + 1) % bell == 0;
        }

        /** The answer is the first two whose mixing gave a year more deeds, or NONE. */
        int passDay(boolean rings) {
            days++;
            for (int i = 0; i < size; i++) {
                Nail one = at(i);
                one.rustBy(dampOf(one.column));
            }
            if (rings) {
                ringBell();
            }
            for (int i = 0; i < size; i++) {
                at(i).leaveIfOut();
            }
            return mixLoose();
        }

        /** Who holds is asked ahead of all: one that others shake out still leans. */
        private void ringBell() {
            int holding = 0;
            for (int i = 0; i < size; i++) {
                if (!at(i).isOut()) {
                    holding |= 1 << i;
                }
            }
            for (int i = 0; i < size; i++) {
                if (has(holding, i)) {
                    Nail one = at(i);
                    one.shake();
                    leanRight(one);
                }
            }
        }

        private void leanRight(Nail one) {
            if (one.kind != CROOKED) {
                return;
            }
            int right = nailIn(one.row, one.column + 1);
            if (right != NONE) {
                at(right).lose(1);
            }
        }

        private int mixLoose() {
            int firstTwo = NONE;
            for (int i = 0; i < size; i++) {
                if (at(i).isLoose()) {
                    int other = mixWithHigher(i);
                    if (firstTwo == NONE && other != NONE) {
                        firstTwo = 10 * i + other;
                    }
                }
            }
            return firstTwo;
        }

        /** The answer is the first of the higher ones by which one of the two years got more, or NONE. */
        private int mixWithHigher(int i) {
            int firstOther = NONE;
            Nail one = at(i);
            for (int j = i + 1; j < size; j++) {
                Nail other = at(j);
                if (other.isLoose() && one.stepsTo(other) == 1) {
                    int both = one.year | other.year;
                    if (firstOther == NONE && (one.year != both || other.year != both)) {
                        firstOther = j;
                    }
                    one.year = both;
                    other.year = both;
                }
            }
            return firstOther;
        }

        int lowestLoose() {
            for (int i = 0; i < size; i++) {
                if (at(i).isLoose()) {
                    return i;
                }
            }
            return NONE;
        }

        int howManyLoose() {
            int loose = 0;
            for (int i = 0; i < size; i++) {
                if (at(i).isLoose()) {
                    loose++;
                }
            }
            return loose;
        }

        int howManyOut() {
            int out = 0;
            for (int i = 0; i < size; i++) {
                if (at(i).isOut()) {
                    out++;
                }
            }
            return out;
        }

        /** Nails (bits) in a column, those that were in it and are out as well. */
        int nailsOfColumn(int c) {
            int bits = 0;
            for (int i = 0; i < size; i++) {
                if (at(i).column == c) {
                    bits |= 1 << i;
                }
            }
            return bits;
        }

        /** Nails (bits) that had a deed when they were laid or driven. */
        int broughtBy(int deed) {
            int bits = 0;
            for (int i = 0; i < size; i++) {
                if (has(at(i).brought, deed)) {
                    bits |= 1 << i;
                }
            }
            return bits;
        }

        /** Nails (bits) that can be reached from one by cells beside each other, or in one cell. */
        int hangingWith(int i) {
            int reached = 1 << i;
            // Each round reaches one more nail at least, or none is left to be reached.
            for (int round = 1; round < size; round++) {
                for (int j = 0; j < size; j++) {
                    if (touchesAny(j, reached)) {
                        reached |= 1 << j;
                    }
                }
            }
            return reached;
        }

        private boolean touchesAny(int j, int bits) {
            for (int i = 0; i < size; i++) {
                if (has(bits, i) && at(i).stepsTo(at(j)) <= 1) {
                    return true;
                }
            }
            return false;
        }
    }

    /** Walls as they stood, the last one on top; a full one that gets one more drops the oldest. */
    private static final class Walls {
        private final Wall[] walls;
        private int size;

        Walls(int limit) {
            walls = new Wall[Math.max(0, limit)];
            for (int k = 0; k < walls.length; k++) {
                walls[k] = new Wall();
            }
        }

        boolean isFull() {
            return size >= walls.length;
        }

        void clear() {
            size = 0;
        }

        /** The wall in a place, or null where there is none. */
        Wall at(int k) {
            return k >= 0 && k < walls.length ? walls[k] : null;
        }

        void put(Wall wall) {
            if (isFull()) {
                dropOldest();
            }
            Wall top = at(size);
            if (top != null) {
                top.copy(wall);
                size++;
            }
        }

        void takeInto(Wall wall) {
            Wall top = at(size - 1);
            if (top != null) {
                wall.copy(top);
                size--;
            }
        }

        /** The oldest one's place is used again for the next one. */
        private void dropOldest() {
            if (walls.length < 1 || size < 1) {
                return;
            }
            Wall oldest = walls[0];
            for (int k = 1; k < walls.length; k++) {
                walls[k - 1] = walls[k];
            }
            walls[walls.length - 1] = oldest;
            size--;
        }
    }

    /** What is measured: that a nail is so deep behind so many days. */
    private static final class Measures {
        private final int[] who = new int[MEASURABLE];
        private final int[] behindDays = new int[MEASURABLE];
        private final int[] depth = new int[MEASURABLE];
        private int size;

        boolean isFull() {
            return size >= MEASURABLE;
        }

        void clear() {
            size = 0;
        }

        void add(int i, int t, int k) {
            if (size >= 0 && size < MEASURABLE) {
                who[size] = i;
                behindDays[size] = t;
                depth[size] = k;
                size++;
            }
        }

        int lastDayOf(int chosen) {
            int last = 0;
            for (int m = 0; m < size && m < MEASURABLE; m++) {
                if (has(chosen, who[m])) {
                    last = Math.max(last, behindDays[m]);
                }
            }
            return Math.min(last, LONGEST_MEASURE);
        }

        boolean holdOn(int day, int chosen, Wall wall) {
            for (int m = 0; m < size && m < MEASURABLE; m++) {
                if (has(chosen, who[m]) && behindDays[m] == day && wall.at(who[m]).deep != depth[m]) {
                    return false;
                }
            }
            return true;
        }
    }

    /** Finds the most cells that no nail and none of themselves is beside, row by row from the last one up. */
    private static final class Gaps {
        private static final int SETS = 1 << LONGEST_SIDE;

        private final int[] open = new int[LONGEST_SIDE];
        // most[r][set]: how many cells from row r on, if those of row r are 'set'; 0 if they can not be,
        // and in the row beyond the last one.
        private final int[][] most = new int[LONGEST_SIDE + 1][SETS];

        int mostIn(Wall wall) {
            findOpen(wall);
            for (int r = LONGEST_SIDE - 1; r >= 0; r--) {
                fillRow(most[r], open[r], most[r + 1]);
            }
            return mostWithout(0, most[0]);
        }

        /** After mostIn: a row of which no set gives as many is empty in all that are as many. */
        int lowestOf(int all, Wall wall) {
            for (int r = 0; r < LONGEST_SIDE; r++) {
                int column = lowestColumn(all, most[r]);
                if (column != NONE) {
                    return r * wall.columns + column;
                }
            }
            return NONE;
        }

        private void findOpen(Wall wall) {
            int whole = (1 << wall.columns) - 1;
            for (int r = 0; r < open.length; r++) {
                open[r] = r < wall.rows ? whole : 0;
            }
            for (int i = 0; i < wall.size; i++) {
                Nail one = wall.at(i);
                if (!one.isOut()) {
                    closeRound(one.row, one.column);
                }
            }
        }

        private void closeRound(int row, int column) {
            close(row, column);
            close(row - 1, column);
            close(row + 1, column);
            close(row, column - 1);
            close(row, column + 1);
        }

        private void close(int row, int column) {
            if (row >= 0 && row < open.length && column >= 0) {
                open[row] &= ~(1 << column);
            }
        }

        private static void fillRow(int[] row, int openCells, int[] below) {
            for (int set = 0; set < row.length; set++) {
                boolean can = (set & ~openCells) == 0 && (set & set << 1) == 0;
                row[set] = can ? Integer.bitCount(set) + mostWithout(set, below) : 0;
            }
        }

        private static int mostWithout(int set, int[] row) {
            int best = 0;
            for (int other = 0; other < row.length; other++) {
                if ((set & other) == 0) {
                    best = Math.max(best, row[other]);
                }
            }
            return best;
        }

        private static int lowestColumn(int all, int[] row) {
            int lowest = NONE;
            for (int set = 1; set < row.length; set++) {
                int column = Integer.numberOfTrailingZeros(set);
                if (row[set] == all && (lowest == NONE || column < lowest)) {
                    lowest = column;
                }
            }
            return lowest;
        }
    }
}
