/** A theatre in which people come on, and nobody can be got off, by its licence. */
public final class OnlyEntrances {
    public static final int UNKNOWN = -1, BAD = -2, LATE = -3, FULL = -4, NONE = -9;

    private static final int COLUMNS = 6, CELLS = 18, ALL_CELLS = (1 << CELLS) - 1;
    private static final int BACK_ROW = 63 << 12, LEFT_COLUMN = 1 | 1 << 6 | 1 << 12, RIGHT_COLUMN = LEFT_COLUMN << 5;
    private static final int MOST_DOORS = 3, MOST_STOOLS = 4, MOST_PARTS = 6, MOST_LINES = 6;
    private static final int ALL_PARTS = (1 << MOST_PARTS) - 1;
    private static final int MOST_BYTES = 60, MOST_ACTS = 14, MOST_TROD = 6, SLOTS = 2;
    private static final int BUTLER = 1, GHOST = 2, MAID = 3, MAID_BRINGS = 2;
    private static final int ENTERED_OR_WALKED = 0, SAID = 1, SHIFTED = 2;
    private static final int HEAVY = 10, TENTHS = 10;

    private final Script script;
    private final Play told;
    private final Play draft;
    private final Stage stage;
    private final Stage trial;
    private final Acts acts;
    private final Trod trod;
    private final Orders orders;
    private final Rests managers;
    private final Stage[] slots;
    private int keptSlots;
    private long chance;

    public OnlyEntrances() {
        script = new Script();
        told = new Play();
        draft = new Play();
        stage = new Stage(told);
        trial = new Stage(told);
        acts = new Acts();
        trod = new Trod();
        orders = new Orders(told, trial);
        managers = new Rests(told, stage, trial);
        slots = new Stage[SLOTS];
        for (int slot = 0; slot < SLOTS; slot++) {
            slots[slot] = new Stage(told);
        }
        keptSlots = 0;
        chance = 0L;
    }

    // ---- the play

    public int write(int letter) {
        if (letter < 0 || letter > 255) {
            return BAD;
        }
        return script.append(letter) ? script.size() : FULL;
    }

    public int wipe() {
        int length = script.size();
        script.empty();
        return length;
    }

    public int fault() {
        return draft.read(script);
    }

    public int play() {
        if (draft.read(script) != NONE) {
            return LATE;
        }
        told.read(script);
        stage.setUp();
        acts.forget();
        keptSlots = 0;
        return 1000 * told.doorCount + 100 * told.stoolCount + 10 * told.partCount + told.lineCount;
    }

    public int about(int what) {
        switch (what) {
            case 0: return told.doorCount;
            case 1: return told.stoolCount;
            case 2: return told.partCount;
            case 3: return told.lineCount;
            case 4: return stage.onParts();
            case 5: return stage.seenParts();
            case 6: return stage.saidLines();
            case 7: return stage.heardAmong(ALL_PARTS);
            case 8: return stage.freeCells();
            case 9: return stage.minuteNow();
            case 10: return acts.size();
            case 11: return trod.size();
            case 12: return script.size();
            default: return BAD;
        }
    }

    public int door(int door) {
        return told.hasDoor(door) ? told.doorCell(door) : UNKNOWN;
    }

    public int stool(int stool) {
        return told.hasStool(stool) ? stage.stoolCell(stool) : UNKNOWN;
    }

    public int part(int part, int what) {
        if (!told.hasPart(part)) {
            return UNKNOWN;
        }
        switch (what) {
            case 0: return told.weight(part);
            case 1: return told.kind(part);
            case 2: return stage.cellOf(part);
            case 3: return stage.inSightOf(part);
            case 4: return Integer.bitCount(Cells.reached(stage.cellOf(part), stage.pathsOf(part)));
            default: return BAD;
        }
    }

    public int line(int line, int what) {
        if (!told.hasLine(line)) {
            return UNKNOWN;
        }
        switch (what) {
            case 0: return told.sayer(line);
            case 1: return told.hearer(line);
            case 2: return Bits.has(stage.saidLines(), line) ? 1 : 0;
            case 3: return Bits.has(stage.heardAmong(ALL_PARTS), line) ? 1 : 0;
            default: return BAD;
        }
    }

    public int load(int column) {
        return column < 0 || column >= COLUMNS ? BAD : stage.loadOf(column);
    }

    // ---- acts

    public int enter(int part, int door) {
        if (!told.hasPart(part) || !told.hasDoor(door)) {
            return UNKNOWN;
        }
        if (!stage.putOn(part, door)) {
            return LATE;
        }
        acts.add(ENTERED_OR_WALKED, part, NONE);
        return stage.cellOf(part);
    }

    public int walk(int part, int way) {
        if (!told.hasPart(part)) {
            return UNKNOWN;
        }
        if (way < 0 || way > 3) {
            return BAD;
        }
        int from = stage.cellOf(part);
        if (!stage.stepOn(part, way)) {
            return LATE;
        }
        acts.add(ENTERED_OR_WALKED, part, from);
        return stage.cellOf(part);
    }

    public int say(int line) {
        if (!told.hasLine(line)) {
            return UNKNOWN;
        }
        if (!stage.speak(line)) {
            return LATE;
        }
        acts.add(SAID, line, NONE);
        return Integer.bitCount(stage.saidLines());
    }

    public int shift(int stool, int cell) {
        if (!told.hasStool(stool) || !Cells.isCell(cell)) {
            return UNKNOWN;
        }
        int from = stage.stoolCell(stool);
        if (!stage.push(stool, cell)) {
            return LATE;
        }
        acts.add(SHIFTED, stool, from);
        return from;
    }

    public int undo() {
        if (acts.size() == 0) {
            return LATE;
        }
        stage.takeBack(acts.lastKind(), acts.lastWho(), acts.lastFrom());
        acts.dropLast();
        return acts.size();
    }

    // ---- ways, places

    public int way(int part, int cell) {
        if (!told.hasPart(part) || !Cells.isCell(cell)) {
            return UNKNOWN;
        }
        if (!stage.isOn(part)) {
            return LATE;
        }
        return Cells.steps(stage.cellOf(part), cell, stage.pathsOf(part));
    }

    public int place(int part, int what) {
        if (!told.hasPart(part)) {
            return UNKNOWN;
        }
        if (what < 0 || what > 1) {
            return BAD;
        }
        if (!stage.isOn(part)) {
            return LATE;
        }
        int cell = bestCell(part);
        return what == 0 ? cell : heardFrom(part, cell);
    }

    /** Goes out ring by ring, so that of like cells the one of the shortest way, then the least, comes first. */
    private int bestCell(int part) {
        trial.copy(stage);
        int best = stage.cellOf(part);
        int most = -1;
        int paths = stage.pathsOf(part);
        int ring = Cells.bit(best);
        int reached = ring;
        for (int steps = 0; steps < CELLS && ring != 0; steps++) {
            for (int cell = 0; cell < CELLS; cell++) {
                int heard = Bits.has(ring, cell) ? heardFrom(part, cell) : -1;
                if (heard > most) {
                    most = heard;
                    best = cell;
                }
            }
            ring = Cells.nextRing(reached, paths);
            reached |= ring;
        }
        return best;
    }

    /** How many lines of a part would be heard if it stood at a cell of the trial. */
    private int heardFrom(int part, int cell) {
        trial.stand(part, cell);
        return Integer.bitCount(trial.heardAmong(ALL_PARTS) & told.linesOf(part));
    }

    public int comes(int part, int door) {
        if (!told.hasPart(part) || !told.hasDoor(door)) {
            return UNKNOWN;
        }
        if (stage.isOn(part)) {
            return LATE;
        }
        trial.copy(stage);
        trial.bringOn(part, door);
        return trial.cellOf(part);
    }

    public int order(boolean order) {
        trial.copy(stage);
        orders.look();
        return order ? orders.best() : orders.most();
    }

    public int bars(int line) {
        return told.hasLine(line) ? stage.barsBetween(told.sayer(line), told.hearer(line)) : UNKNOWN;
    }

    public int leftOut(int what) {
        if (what < 0 || what > 1) {
            return BAD;
        }
        int on = stage.onParts();
        int which = NONE;
        int most = NONE;
        for (int part = 0; part < told.partCount; part++) {
            int heard = Bits.has(on, part) ? stage.countHeard(Bits.without(on, part)) : NONE;
            if (heard > most) {
                most = heard;
                which = part;
            }
        }
        return what == 0 ? which : most;
    }

    public int judge(int n, long row) {
        if (n < 1 || n > 4 || row < 0 || row >= Fractions.power(1000, n)) {
            return BAD;
        }
        trial.copy(stage);
        for (int place = 0; place < n; place++) {
            int figures = figuresAt(row, n - 1 - place);
            if (!trial.does(figures / 100, figures / 10 % 10, figures % 10)) {
                return place;
            }
        }
        return NONE;
    }

    /** The three figures of a row that have so many threes behind them. */
    private static int figuresAt(long row, int behind) {
        long left = row;
        for (int three = 0; three < behind; three++) {
            left /= 1000;
        }
        return (int) (left % 1000);
    }

    public int share(int part, boolean upper) {
        if (!told.hasPart(part)) {
            return UNKNOWN;
        }
        int on = stage.onParts();
        int others = Bits.without(on, part);
        if (others == on) {
            return Fractions.half(0, 1, upper);
        }
        int behind = Integer.bitCount(others);
        long more = 0;
        for (int came = 0; came <= others; came++) {
            if ((came & ~others) == 0) {
                int ahead = Integer.bitCount(came);
                long orders = Fractions.factorial(ahead) * Fractions.factorial(behind - ahead);
                more += orders * (stage.countHeard(Bits.with(came, part)) - stage.countHeard(came));
            }
        }
        return Fractions.half(more, Fractions.factorial(behind + 1), upper);
    }

    // ---- doors

    public int tread(int cell, int m) {
        if (!Cells.isCell(cell)) {
            return UNKNOWN;
        }
        if (m < 0 || m > 9) {
            return BAD;
        }
        return trod.add(cell, m) ? trod.size() : FULL;
    }

    public int untread() {
        int were = trod.size();
        trod.forget();
        return were;
    }

    public int doors() {
        int floor = ALL_CELLS & ~stage.stoolCells();
        int fitting = 0;
        for (int door = 0; door < told.doorCount; door++) {
            if (trod.allFrom(told.doorCell(door), floor)) {
                fitting = Bits.with(fitting, door);
            }
        }
        return fitting;
    }

    // ---- rests, chances

    public int rests(int part, int other, int what) {
        if (!told.hasPart(part) || !told.hasPart(other)) {
            return UNKNOWN;
        }
        if (part == other || what < 0 || what > 1) {
            return BAD;
        }
        if (stage.isOn(part) || stage.isOn(other)) {
            return LATE;
        }
        managers.look(part, other);
        return what == 0 ? managers.count() : managers.first();
    }

    public int gives(int m, int x, boolean upper) {
        if (m < 0 || m > COLUMNS || x < 0 || x > TENTHS) {
            return BAD;
        }
        int heavy = 0;
        for (int column = 0; column < COLUMNS; column++) {
            if (stage.loadOf(column) >= HEAVY) {
                heavy++;
            }
        }
        long cases = 0;
        for (int give = m; give <= heavy; give++) {
            cases += Fractions.choices(heavy, give)
                * Fractions.power(x, give) * Fractions.power(TENTHS - x, heavy - give);
        }
        return Fractions.half(cases, Fractions.power(TENTHS, heavy), upper);
    }

    public long seed(long v) {
        long was = chance;
        chance = v;
        return was;
    }

    public int evenings(int m) {
        if (m < 1 || m > 30) {
            return BAD;
        }
        trial.copy(stage);
        int seen = 0;
        for (int time = 0; time < m; time++) {
            chance = chance * 6364136223846793005L + 1442695040888963407L;
            int lot = (int) ((chance >>> 33) % 42);
            if (lot < 24) {
                trial.stepOn(lot / 4, lot % 4);
            } else {
                trial.putOn((lot - 24) / 3, (lot - 24) % 3);
            }
            seen += Integer.bitCount(trial.seenParts());
        }
        return seen;
    }

    // ---- slots

    public int keep(int slot) {
        if (slot < 0 || slot >= SLOTS) {
            return UNKNOWN;
        }
        slots[slot].copy(stage);
        keptSlots = Bits.with(keptSlots, slot);
        return stage.minuteNow();
    }

    public int again(int slot) {
        if (slot < 0 || slot >= SLOTS) {
            return UNKNOWN;
        }
        if (!Bits.has(keptSlots, slot)) {
            return LATE;
        }
        stage.copy(slots[slot]);
        acts.forget();
        return stage.minuteNow();
    }

    /** Sets of cells, parts, lines or doors, as bits. */
    static final class Bits {
        static boolean has(int bits, int n) {
            return n >= 0 && n < 31 && (bits >> n & 1) != 0;
        }

        static int with(int bits, int n) {
            return n >= 0 && n < 31 ? bits | 1 << n : bits;
        }

        static int without(int bits, int n) {
            return n >= 0 && n < 31 ? bits & ~(1 << n) : bits;
        }
    }

    /** What can be said of cells alone. */
    static final class Cells {
        static boolean isCell(int cell) {
            return cell >= 0 && cell < CELLS;
        }

        static int bit(int cell) {
            return cell >= 0 && cell < CELLS ? 1 << cell : 0;
        }

        static int least(int cells) {
            for (int cell = 0; cell < CELLS; cell++) {
                if (Bits.has(cells, cell)) {
                    return cell;
                }
            }
            return NONE;
        }

        /** The next cell in a way; NONE beyond row and stage. */
        static int next(int cell, int way) {
            switch (way) {
                case 0: return Bits.has(ALL_CELLS & ~LEFT_COLUMN, cell) ? cell - 1 : NONE;
                case 1: return Bits.has(ALL_CELLS & ~RIGHT_COLUMN, cell) ? cell + 1 : NONE;
                case 2: return isCell(cell) && isCell(cell - COLUMNS) ? cell - COLUMNS : NONE;
                case 3: return isCell(cell) && isCell(cell + COLUMNS) ? cell + COLUMNS : NONE;
                default: return NONE;
            }
        }

        /** The cells of the paths that are one step from those reached, and not among them. */
        static int nextRing(int reached, int paths) {
            int beside = (reached & ~LEFT_COLUMN) >> 1 | (reached & ~RIGHT_COLUMN) << 1;
            int beyond = reached >> COLUMNS | reached << COLUMNS;
            return (beside | beyond) & paths & ~reached;
        }

        static int reached(int from, int paths) {
            int reached = bit(from);
            for (int steps = 1; steps < CELLS; steps++) {
                reached |= nextRing(reached, paths);
            }
            return reached;
        }

        /** The fewest steps from a cell to another one by the paths; NONE. */
        static int steps(int from, int to, int paths) {
            int reached = bit(from);
            for (int steps = 0; steps < CELLS; steps++) {
                if (Bits.has(reached, to)) {
                    return steps;
                }
                reached |= nextRing(reached, paths);
            }
            return NONE;
        }

        /** The cells between two; NONE: they are no two cells in line. */
        static int between(int one, int other) {
            if (!isCell(one) || !isCell(other) || one == other) {
                return NONE;
            }
            int rows = other / COLUMNS - one / COLUMNS;
            int columns = other % COLUMNS - one % COLUMNS;
            if (rows != 0 && columns != 0 && Math.abs(rows) != Math.abs(columns)) {
                return NONE;
            }
            int step = COLUMNS * Integer.compare(rows, 0) + Integer.compare(columns, 0);
            int apart = Math.max(Math.abs(rows), Math.abs(columns));
            int gap = 0;
            for (int far = 1; far < apart; far++) {
                gap |= bit(one + far * step);
            }
            return gap;
        }
    }

    /** Whole numbers for fractions. */
    static final class Fractions {
        static long power(int base, int times) {
            long power = 1;
            for (int time = 0; time < times; time++) {
                power *= base;
            }
            return power;
        }

        static long factorial(int n) {
            long product = 1;
            for (int factor = 2; factor <= n; factor++) {
                product *= factor;
            }
            return product;
        }

        static long choices(int n, int chosen) {
            long choices = 1;
            for (int taken = 0; taken < chosen; taken++) {
                choices = choices * (n - taken) / (taken + 1);
            }
            return choices;
        }

        /** What stands above or below the stroke, in least terms. */
        static int half(long above, long below, boolean upper) {
            long common = commonDivisor(Math.abs(above), below);
            if (common == 0) {
                return 0;
            }
            return (int) ((upper ? above : below) / common);
        }

        private static long commonDivisor(long one, long other) {
            long big = one;
            long small = other;
            for (int round = 0; round < 1000 && small != 0; round++) {
                long left = big % small;
                big = small;
                small = left;
            }
            return big;
        }
    }

    /** THE TEXT. */
    static final class Script {
        private final int[] bytes = new int[MOST_BYTES];
        private int length;

        int size() {
            return length;
        }

        boolean append(int letter) {
            if (length >= MOST_BYTES) {
                return false;
            }
            bytes[length] = letter;
            length++;
            return true;
        }

        void empty() {
            length = 0;
        }

        /** Behind the end -1, which is no byte: so a text that stops too early is at fault just there. */
        int byteAt(int place) {
            return place >= 0 && place < length ? bytes[place] : -1;
        }
    }

    /** What a text tells. */
    static final class Play {
        int doorCount;
        int stoolCount;
        int partCount;
        int lineCount;
        private final int[] doorCells = new int[MOST_DOORS];
        private final int[] stoolCells = new int[MOST_STOOLS];
        private final int[] weights = new int[MOST_PARTS];
        private final int[] kinds = new int[MOST_PARTS];
        private final int[] sayers = new int[MOST_LINES];
        private final int[] hearers = new int[MOST_LINES];
        private int ghosts;
        private int taken;

        /** Becomes what the text tells, up to its fault, which is answered. */
        int read(Script script) {
            forget();
            if (script.byteAt(0) != 'E') {
                return 0;
            }
            int at = 1;
            while (at < script.size()) {
                int letter = script.byteAt(at);
                int size = letter == 'D' || letter == 'F' ? 2 : 3;
                int good = takeThing(letter, script.byteAt(at + 1), script.byteAt(at + 2));
                if (good < size) {
                    return at + good;
                }
                at += size;
            }
            return NONE;
        }

        private void forget() {
            doorCount = 0;
            stoolCount = 0;
            partCount = 0;
            lineCount = 0;
            ghosts = 0;
            taken = 0;
        }

        /** Takes a thing in, if it can be one: how many of its bytes may stand. */
        private int takeThing(int letter, int first, int second) {
            switch (letter) {
                case 'D': return takeDoor(first - 'a');
                case 'F': return takeStool(first - 'a');
                case 'P': return takePart(first - '0', second - '0');
                case 'L': return takeLine(first - '0', second - '0');
                default: return 0;
            }
        }

        /** Doors and stools can fill the back row: then no letter can follow another D. */
        private int takeDoor(int cell) {
            int open = BACK_ROW & ~taken;
            if (doorCount >= MOST_DOORS || open == 0) {
                return 0;
            }
            if (!Bits.has(open, cell)) {
                return 1;
            }
            doorCells[doorCount] = cell;
            doorCount++;
            taken |= Cells.bit(cell);
            return 2;
        }

        private int takeStool(int cell) {
            if (stoolCount >= MOST_STOOLS) {
                return 0;
            }
            if (!Bits.has(ALL_CELLS & ~taken, cell)) {
                return 1;
            }
            stoolCells[stoolCount] = cell;
            stoolCount++;
            taken |= Cells.bit(cell);
            return 2;
        }

        private int takePart(int weight, int kind) {
            if (partCount >= MOST_PARTS) {
                return 0;
            }
            if (weight < 1 || weight > 9) {
                return 1;
            }
            if (kind < 0 || kind > 3) {
                return 2;
            }
            weights[partCount] = weight;
            kinds[partCount] = kind;
            ghosts = kind == GHOST ? Bits.with(ghosts, partCount) : ghosts;
            partCount++;
            return 3;
        }

        /** With fewer than two parts told no figures can follow an L. */
        private int takeLine(int sayer, int hearer) {
            if (lineCount >= MOST_LINES || partCount < 2) {
                return 0;
            }
            if (!hasPart(sayer)) {
                return 1;
            }
            if (!hasPart(hearer) || hearer == sayer) {
                return 2;
            }
            sayers[lineCount] = sayer;
            hearers[lineCount] = hearer;
            lineCount++;
            return 3;
        }

        boolean hasDoor(int door) {
            return door >= 0 && door < doorCount;
        }

        boolean hasStool(int stool) {
            return stool >= 0 && stool < stoolCount;
        }

        boolean hasPart(int part) {
            return part >= 0 && part < partCount;
        }

        boolean hasLine(int line) {
            return line >= 0 && line < lineCount;
        }

        int doorCell(int door) {
            return hasDoor(door) ? doorCells[door] : NONE;
        }

        int toldStoolCell(int stool) {
            return hasStool(stool) ? stoolCells[stool] : NONE;
        }

        int weight(int part) {
            return hasPart(part) ? weights[part] : 0;
        }

        int kind(int part) {
            return hasPart(part) ? kinds[part] : NONE;
        }

        int sayer(int line) {
            return hasLine(line) ? sayers[line] : NONE;
        }

        int hearer(int line) {
            return hasLine(line) ? hearers[line] : NONE;
        }

        int ghostParts() {
            return ghosts;
        }

        int doorwayCells() {
            int doorways = 0;
            for (int door = 0; door < doorCount; door++) {
                doorways |= Cells.bit(doorCell(door));
            }
            return doorways;
        }

        int linesOf(int part) {
            int lines = 0;
            for (int line = 0; line < lineCount; line++) {
                if (sayer(line) == part || hearer(line) == part) {
                    lines = Bits.with(lines, line);
                }
            }
            return lines;
        }
    }

    /** Where all are, what was said, where stools are, and the minute: now, on trial, or kept. */
    static final class Stage {
        private final Play play;
        private final int[] cells = new int[MOST_PARTS];
        private final int[] stools = new int[MOST_STOOLS];
        private int said;
        private int minute;

        Stage(Play told) {
            play = told;
            setUp();
        }

        void setUp() {
            for (int part = 0; part < MOST_PARTS; part++) {
                cells[part] = NONE;
            }
            for (int stool = 0; stool < MOST_STOOLS; stool++) {
                stools[stool] = play.toldStoolCell(stool);
            }
            said = 0;
            minute = 0;
        }

        void copy(Stage other) {
            System.arraycopy(other.cells, 0, cells, 0, MOST_PARTS);
            System.arraycopy(other.stools, 0, stools, 0, MOST_STOOLS);
            said = other.said;
            minute = other.minute;
        }

        int saidLines() {
            return said;
        }

        int minuteNow() {
            return minute;
        }

        int cellOf(int part) {
            return play.hasPart(part) ? cells[part] : NONE;
        }

        boolean isOn(int part) {
            return cellOf(part) != NONE;
        }

        int stoolCell(int stool) {
            return play.hasStool(stool) ? stools[stool] : NONE;
        }

        int onParts() {
            int on = 0;
            for (int part = 0; part < play.partCount; part++) {
                on = isOn(part) ? Bits.with(on, part) : on;
            }
            return on;
        }

        int stoolCells() {
            int filled = 0;
            for (int stool = 0; stool < MOST_STOOLS; stool++) {
                filled |= Cells.bit(stools[stool]);
            }
            return filled;
        }

        private int cellsOf(int parts) {
            int filled = 0;
            for (int part = 0; part < MOST_PARTS; part++) {
                filled |= Bits.has(parts, part) ? Cells.bit(cells[part]) : 0;
            }
            return filled;
        }

        /** The cells of such parts as one does not see through. */
        private int bodyCells(int parts) {
            return cellsOf(parts & ~play.ghostParts());
        }

        int freeCells() {
            return ALL_CELLS & ~stoolCells() & ~cellsOf(ALL_PARTS);
        }

        /** The cells that a part may step on. */
        int pathsOf(int part) {
            return play.kind(part) == BUTLER ? 0 : freeCells();
        }

        /** The cells with no body nearer to the front. */
        private int shownCells() {
            int bodies = bodyCells(ALL_PARTS);
            return ALL_CELLS & ~(bodies << COLUMNS | bodies << 2 * COLUMNS);
        }

        int seenParts() {
            int shown = shownCells();
            int seen = 0;
            for (int part = 0; part < play.partCount; part++) {
                seen = Bits.has(shown, cellOf(part)) ? Bits.with(seen, part) : seen;
            }
            return seen;
        }

        private boolean haveSight(int one, int other, int veil) {
            int gap = Cells.between(cellOf(one), cellOf(other));
            return gap != NONE && (gap & veil) == 0;
        }

        int inSightOf(int part) {
            int veil = stoolCells() | bodyCells(ALL_PARTS);
            int inSight = 0;
            for (int other = 0; other < play.partCount; other++) {
                inSight = haveSight(part, other, veil) ? Bits.with(inSight, other) : inSight;
            }
            return inSight;
        }

        /** The lines that are heard if of those who are on only these parts are there. */
        int heardAmong(int parts) {
            int veil = stoolCells() | bodyCells(parts);
            int heard = 0;
            for (int line = 0; line < play.lineCount; line++) {
                int one = play.sayer(line);
                int other = play.hearer(line);
                boolean open = !Bits.has(said, line) && Bits.has(parts, one) && Bits.has(parts, other);
                if (open && haveSight(one, other, veil)) {
                    heard = Bits.with(heard, line);
                }
            }
            return heard;
        }

        int countHeard(int parts) {
            return Integer.bitCount(heardAmong(parts));
        }

        int barsBetween(int one, int other) {
            int gap = Cells.between(cellOf(one), cellOf(other));
            if (gap == NONE || (gap & stoolCells()) != 0) {
                return NONE;
            }
            int bars = 0;
            for (int part = 0; part < play.partCount; part++) {
                boolean bar = play.kind(part) != GHOST && Bits.has(gap, cellOf(part));
                bars = bar ? Bits.with(bars, part) : bars;
            }
            return bars;
        }

        int loadOf(int column) {
            int sum = 0;
            for (int part = 0; part < play.partCount; part++) {
                if (isOn(part) && cellOf(part) % COLUMNS == column) {
                    sum += play.weight(part) + (play.kind(part) == MAID ? MAID_BRINGS : 0);
                }
            }
            return sum;
        }

        boolean putOn(int part, int door) {
            int cell = play.doorCell(door);
            if (!play.hasPart(part) || isOn(part) || !Bits.has(freeCells(), cell)) {
                return false;
            }
            cells[part] = cell;
            minute++;
            return true;
        }

        boolean stepOn(int part, int way) {
            int cell = Cells.next(cellOf(part), way);
            if (!play.hasPart(part) || !Bits.has(pathsOf(part), cell)) {
                return false;
            }
            cells[part] = cell;
            minute++;
            return true;
        }

        boolean speak(int line) {
            if (!Bits.has(heardAmong(ALL_PARTS), line)) {
                return false;
            }
            said = Bits.with(said, line);
            minute++;
            return true;
        }

        boolean push(int stool, int cell) {
            if (!play.hasStool(stool) || !Bits.has(freeCells() & ~play.doorwayCells(), cell)) {
                return false;
            }
            stools[stool] = cell;
            minute++;
            return true;
        }

        /** Does what three figures tell, if it can be. */
        boolean does(int doing, int first, int second) {
            switch (doing) {
                case 1: return putOn(first, second);
                case 2: return stepOn(first, second);
                case 3: return first == 0 && speak(second);
                default: return false;
            }
        }

        void takeBack(int kind, int who, int from) {
            if (kind == ENTERED_OR_WALKED) {
                stand(who, from);
            } else if (kind == SAID) {
                said = Bits.without(said, who);
            } else if (play.hasStool(who)) {
                stools[who] = from;
            }
            minute--;
        }

        /** A part is at a cell, or at NONE. */
        void stand(int part, int cell) {
            if (play.hasPart(part)) {
                cells[part] = cell;
            }
        }

        int leastFreeDoor() {
            int free = freeCells();
            for (int door = 0; door < play.doorCount; door++) {
                if (Bits.has(free, play.doorCell(door))) {
                    return door;
                }
            }
            return NONE;
        }

        /** A part that is not on comes by a door: by how many steps; NONE: it does not come. */
        int bringOn(int part, int door) {
            int start = play.doorCell(door);
            int free = freeCells();
            if (!Bits.has(free, start)) {
                return NONE;
            }
            int paths = play.kind(part) == BUTLER ? 0 : free;
            int shown = shownCells();
            int ring = Cells.bit(start);
            int reached = ring;
            for (int steps = 0; steps < CELLS && ring != 0; steps++) {
                if ((ring & shown) != 0) {
                    stand(part, Cells.least(ring & shown));
                    return steps;
                }
                ring = Cells.nextRing(reached, paths);
                reached |= ring;
            }
            stand(part, start);
            return 0;
        }
    }

    /** The last acts, the oldest first. */
    static final class Acts {
        private final int[] kinds = new int[MOST_ACTS];
        private final int[] whos = new int[MOST_ACTS];
        private final int[] froms = new int[MOST_ACTS];
        private int count;

        int size() {
            return count;
        }

        void forget() {
            count = 0;
        }

        void add(int kind, int who, int from) {
            if (count >= MOST_ACTS) {
                dropFirst();
            }
            kinds[count] = kind;
            whos[count] = who;
            froms[count] = from;
            count++;
        }

        private void dropFirst() {
            count = MOST_ACTS - 1;
            System.arraycopy(kinds, 1, kinds, 0, count);
            System.arraycopy(whos, 1, whos, 0, count);
            System.arraycopy(froms, 1, froms, 0, count);
        }

        void dropLast() {
            count = Math.max(0, count - 1);
        }

        int lastKind() {
            return count > 0 ? kinds[count - 1] : NONE;
        }

        int lastWho() {
            return count > 0 ? whos[count - 1] : NONE;
        }

        int lastFrom() {
            return count > 0 ? froms[count - 1] : NONE;
        }
    }

    /** What is told of who came to which cell in how many steps. */
    static final class Trod {
        private final int[] cells = new int[MOST_TROD];
        private final int[] steps = new int[MOST_TROD];
        private int count;

        int size() {
            return count;
        }

        void forget() {
            count = 0;
        }

        boolean add(int cell, int m) {
            if (count >= MOST_TROD) {
                return false;
            }
            cells[count] = cell;
            steps[count] = m;
            count++;
            return true;
        }

        /** Whether all of it is so for one who came from this cell. */
        boolean allFrom(int start, int floor) {
            for (int told = 0; told < count; told++) {
                if (Cells.steps(start, cells[told], floor) != steps[told]) {
                    return false;
                }
            }
            return true;
        }
    }

    /** The order of entrances behind which most lines are heard. */
    static final class Orders {
        private final Play play;
        private final Stage trial;
        private int most;
        private int best;

        Orders(Play told, Stage tried) {
            play = told;
            trial = tried;
        }

        int most() {
            return most;
        }

        int best() {
            return best;
        }

        /** Begins with the stage that the trial is, and leaves it so. */
        void look() {
            most = -1;
            best = 0;
            int waiting = ~trial.onParts() & (1 << play.partCount) - 1;
            goOn(this, waiting, 0, 0);
        }

        /** The least part comes next first: so of like orders the first one found is the least number. */
        private static void goOn(Orders orders, int waiting, int number, int depth) {
            if (waiting == 0 || depth >= MOST_PARTS) {
                orders.weigh(number);
                return;
            }
            Stage trial = orders.trial;
            for (int part = 0; part < MOST_PARTS; part++) {
                if (Bits.has(waiting, part)) {
                    trial.bringOn(part, trial.leastFreeDoor());
                    goOn(orders, Bits.without(waiting, part), 10 * number + part + 1, depth + 1);
                    trial.stand(part, NONE);
                }
            }
        }

        private void weigh(int number) {
            int heard = Integer.bitCount(trial.heardAmong(ALL_PARTS));
            if (heard > most) {
                most = heard;
                best = number;
            }
        }
    }

    /** Two managers, each of whom chooses a door for a part of theirs. */
    static final class Rests {
        private final Play play;
        private final Stage stage;
        private final Stage trial;
        private final int[] ofOne = new int[MOST_DOORS * MOST_DOORS];
        private final int[] ofOther = new int[MOST_DOORS * MOST_DOORS];
        private int count;
        private int first;

        Rests(Play told, Stage real, Stage tried) {
            play = told;
            stage = real;
            trial = tried;
        }

        int count() {
            return count;
        }

        /** 10 times the one's door and the other one's; NONE. */
        int first() {
            return first;
        }

        void look(int one, int other) {
            int doors = play.doorCount;
            for (int oneDoor = 0; oneDoor < doors; oneDoor++) {
                for (int otherDoor = 0; otherDoor < doors; otherDoor++) {
                    perform(one, other, oneDoor, otherDoor);
                }
            }
            count = 0;
            first = NONE;
            for (int oneDoor = 0; oneDoor < doors; oneDoor++) {
                for (int otherDoor = 0; otherDoor < doors; otherDoor++) {
                    if (isRest(oneDoor, otherDoor)) {
                        first = count == 0 ? 10 * oneDoor + otherDoor : first;
                        count++;
                    }
                }
            }
        }

        private void perform(int one, int other, int oneDoor, int otherDoor) {
            trial.copy(stage);
            int oneSteps = trial.bringOn(one, oneDoor);
            int otherSteps = trial.bringOn(other, otherDoor);
            int seen = trial.seenParts();
            int at = MOST_DOORS * oneDoor + otherDoor;
            ofOne[at] = worth(oneSteps, Bits.has(seen, one));
            ofOther[at] = worth(otherSteps, Bits.has(seen, other));
        }

        private static int worth(int steps, boolean seen) {
            if (steps == NONE) {
                return 0;
            }
            return seen ? 9 - steps : 1;
        }

        private boolean isRest(int oneDoor, int otherDoor) {
            int at = MOST_DOORS * oneDoor + otherDoor;
            for (int door = 0; door < play.doorCount; door++) {
                boolean oneHasMore = ofOne[MOST_DOORS * door + otherDoor] > ofOne[at];
                boolean otherHasMore = ofOther[MOST_DOORS * oneDoor + door] > ofOther[at];
                if (oneHasMore || otherHasMore) {
                    return false;
                }
            }
            return true;
        }
    }
}
