/** A bench of microphones that hear clicks. The promises that it keeps are numbered in ../shared/DOC.md. */
public final class ClickBench {
    /** Returned where there is no such value. */
    public static final int NONE = -1000000000;

    private static final int MOST_MICROPHONES = 8;
    private static final int MOST_WALLS = 4;
    private static final int MOST_SCREENS = 4;
    private static final int MOST_CELLS = 400;
    private static final int KEPT_STATES = 4;

    /** Why a call can't be carried out; the numbers are those that stop() answers. */
    private static final int FINE = 0;
    private static final int NO_SUCH = 1;
    private static final int OUT_OF_RANGE = 2;
    private static final int NOT_NOW = 3;

    /** The kinds that remove() and part() know. */
    private static final int MICROPHONE = 0;
    private static final int WALL = 1;
    private static final int SCREEN = 2;
    private static final int SETTING = 3;

    /** How many values part() tells of each kind. */
    private static final int[] PARTS = {4, 3, 4, 1};

    /** The columns of a microphone. */
    private static final int X = 0;
    private static final int Y = 1;
    private static final int CLOCK_ERROR = 2;
    private static final int OFFSET = 3;
    private static final int NOTE = 4;
    private static final int HEARD = 5;
    private static final int HEARD_VALUES = 4;

    /** The columns of a wall and a screen. */
    private static final int AXIS = 0;
    private static final int LINE = 1;
    private static final int WALL_LOSS = 2;
    private static final int SCREEN_FROM = 2;
    private static final int SCREEN_TO = 3;

    /** The settings. */
    private static final int SPEED = 0;
    private static final int ORDER = 1;
    private static final int LOSS = 2;
    private static final int JITTER = 3;
    private static final int THRESHOLD = 4;
    private static final int MODE = 5;
    private static final int TOLERANCE = 6;
    private static final int SETTINGS = 7;
    private static final int[] LEAST_SETTINGS = {100, 1, 0, 0, 0, 0, 0};
    private static final int[] GREATEST_SETTINGS = {1000, 2, 100, 50, 1000, 1, 500};
    private static final int[] FIRST_SETTINGS = {340, 1, 0, 0, 10, 0, 20};

    /** The values of the whole, and those of them that need a survey. */
    private static final int GREATEST_WHOLE = 10;
    private static final int FIRST_SURVEYED_WHOLE = 6;
    private static final int LAST_SURVEYED_WHOLE = 9;

    /** Tells the survey that it leaves out no microphone. */
    private static final int NOBODY = -1;

    private final Bench bench = new Bench();
    private final Arrivals reached = new Arrivals();
    private final Ear ear = new Ear();
    private final Survey survey = new Survey();
    private final UndoStack saved = new UndoStack();
    private final CommandText text = new CommandText();
    private final CommandReader reader = new CommandReader();
    private int latestStop = FINE;

    public ClickBench() {
    }

    // ---- the bench

    public int begin(int columns, int rows) throws IllegalArgumentException {
        refuse(bench.refusalOfField(columns, rows));
        saveState();
        return bench.startField(columns, rows);
    }

    public int addMicrophone(int x, int y) throws IllegalArgumentException, IllegalStateException {
        refuse(bench.refusalOfMicrophone(x, y));
        saveState();
        return bench.placeMicrophone(x, y);
    }

    public int setClock(int microphone, int error) throws IndexOutOfBoundsException, IllegalArgumentException {
        requireThere(bench.microphones.has(microphone));
        requireRange(isBetween(error, -500, 500));
        saveState();
        int before = bench.microphones.at(microphone, CLOCK_ERROR);
        bench.microphones.put(microphone, CLOCK_ERROR, error);
        return before;
    }

    public int addWall(int axis, int c, int loss) throws IllegalArgumentException, IllegalStateException {
        refuse(bench.refusalOfWall(axis, c, loss));
        saveState();
        return bench.placeWall(axis, c, loss);
    }

    public int addScreen(int axis, int c, int a, int b) throws IllegalArgumentException, IllegalStateException {
        refuse(bench.refusalOfScreen(axis, c, a, b));
        saveState();
        return bench.placeScreen(axis, c, a, b);
    }

    public int remove(int kind, int index) throws IllegalArgumentException, IndexOutOfBoundsException {
        requireRange(isBetween(kind, MICROPHONE, SCREEN));
        Table table = bench.tableOf(kind);
        requireThere(table.has(index));
        saveState();
        table.dropRow(index);
        return table.count;
    }

    public int set(int what, int value) throws IllegalArgumentException {
        refuse(bench.refusalOfSetting(what, value));
        saveState();
        return bench.changeSetting(what, value);
    }

    public int setS(int value) throws IllegalArgumentException {
        requireRange(value >= 0);
        saveState();
        int before = bench.s;
        bench.s = value;
        return before;
    }

    // ---- clicks

    public int click(int x, int y, int time) throws IllegalArgumentException, IllegalStateException {
        refuse(bench.refusalOfClick(x, y, time));
        saveState();
        return ear.hearClick(bench, x, y, time);
    }

    public int calibrate(int x, int y, int time) throws IllegalArgumentException, IllegalStateException {
        refuse(bench.refusalOfClick(x, y, time));
        saveState();
        return ear.hearKnownClick(bench, x, y, time);
    }

    public int note(int microphone) throws IndexOutOfBoundsException {
        requireThere(bench.microphones.has(microphone));
        return bench.microphones.at(microphone, NOTE);
    }

    public int heard(int microphone, int what) throws IndexOutOfBoundsException, IllegalArgumentException {
        requireThere(bench.microphones.has(microphone));
        requireRange(isBetween(what, 0, HEARD_VALUES - 1));
        return bench.microphones.at(microphone, HEARD + what);
    }

    // ---- what sound does, without chance

    public int arrivals(int x, int y, int microphone) throws IndexOutOfBoundsException, IllegalArgumentException {
        requireThere(bench.microphones.has(microphone));
        requireRange(isClickPlace(x, y));
        reached.collect(bench, x, y, microphone);
        return reached.list.count;
    }

    public int arrival(int x, int y, int microphone, int index, int what)
            throws IndexOutOfBoundsException, IllegalArgumentException {
        requireThere(bench.microphones.has(microphone));
        requireRange(isClickPlace(x, y) && index >= 0 && isBetween(what, Arrivals.KIND, Arrivals.STRENGTH));
        reached.collect(bench, x, y, microphone);
        return reached.list.at(index, what);
    }

    // ---- pairs and cells

    public int delay(int i, int j) throws IndexOutOfBoundsException, IllegalArgumentException {
        requireThere(bench.microphones.has(i) && bench.microphones.has(j));
        requireRange(i != j);
        if (!bench.hasNoted(i) || !bench.hasNoted(j)) {
            return NONE;
        }
        return bench.microphones.at(i, NOTE) - bench.microphones.at(j, NOTE);
    }

    public int expected(int cell, int i, int j) throws IndexOutOfBoundsException, IllegalArgumentException {
        requireThere(bench.hasCell(cell) && bench.microphones.has(i) && bench.microphones.has(j));
        requireRange(i != j);
        return bench.timeFromCell(cell, i) - bench.timeFromCell(cell, j);
    }

    public int votes(int cell) throws IndexOutOfBoundsException {
        requireThere(bench.hasCell(cell));
        survey.take(bench, NOBODY);
        return survey.votesOf(cell);
    }

    public int error(int cell) throws IndexOutOfBoundsException {
        requireThere(bench.hasCell(cell));
        survey.take(bench, NOBODY);
        return survey.errorOf(cell);
    }

    public int found() {
        survey.take(bench, NOBODY);
        return survey.best;
    }

    public double middle(boolean down) {
        survey.take(bench, NOBODY);
        int cells = survey.tiedCells;
        if (cells == 0) {
            return -1.0;
        }
        int sum = survey.sumOfTied(bench, down);
        return (double) sum / (double) cells;
    }

    public int blame(int microphone) throws IndexOutOfBoundsException {
        requireThere(bench.microphones.has(microphone));
        survey.take(bench, NOBODY);
        return survey.blameOf(bench, microphone);
    }

    public int suspect() {
        survey.take(bench, NOBODY);
        return survey.mostBlamed(bench);
    }

    public int foundWithout(int microphone) throws IndexOutOfBoundsException {
        requireThere(bench.microphones.has(microphone));
        survey.take(bench, microphone);
        return survey.best;
    }

    public int whole(int what) throws IllegalArgumentException {
        requireRange(isBetween(what, 0, GREATEST_WHOLE));
        if (isBetween(what, FIRST_SURVEYED_WHOLE, LAST_SURVEYED_WHOLE)) {
            survey.take(bench, NOBODY);
        }
        return valueOfWhole(what);
    }

    public int part(int kind, int index, int what) throws IllegalArgumentException, IndexOutOfBoundsException {
        requireRange(isBetween(kind, 0, PARTS.length - 1) && isBetween(what, 0, PARTS[kind] - 1));
        Table table = bench.tableOf(kind);
        requireThere(table.has(index));
        return table.at(index, what);
    }

    // ---- command text, undo and checksum

    public int type(int value) throws IllegalArgumentException, IllegalStateException {
        requireRange(isBetween(value, 0, 127));
        refuse(text.isFull() ? NOT_NOW : FINE);
        return text.append(value);
    }

    public int clearCommands() {
        return text.empty();
    }

    public int runCommands() {
        int fault = reader.read(text);
        if (fault != NONE) {
            return -10 - fault;
        }
        saveState();
        latestStop = FINE;
        for (int done = 0; done < reader.count; done++) {
            Command command = reader.commandOf(done);
            int a = reader.numberOf(done, 0);
            int b = reader.numberOf(done, 1);
            int c = reader.numberOf(done, 2);
            int d = reader.numberOf(done, 3);
            latestStop = refusalOf(command, a, b, c, d);
            if (latestStop != FINE) {
                return done;
            }
            carryOut(command, a, b, c, d);
        }
        return reader.count;
    }

    public int stop() {
        return latestStop;
    }

    public int undo() throws IllegalStateException {
        refuse(saved.depth == 0 ? NOT_NOW : FINE);
        saved.pop(bench);
        survey.outdate();
        return saved.depth;
    }

    public long digest() {
        survey.take(bench, NOBODY);
        long h = 18879;
        h = mix(h, saved.depth);
        h = mix(h, text.length);
        h = mix(h, latestStop);
        for (int what = 0; what <= GREATEST_WHOLE; what++) {
            h = mix(h, valueOfWhole(what));
        }
        h = mixMicrophones(h);
        h = mixTable(h, WALL);
        h = mixTable(h, SCREEN);
        h = mixTable(h, SETTING);
        h = mix(h, survey.best);
        h = mix(h, survey.mostBlamed(bench));
        return mixCells(h);
    }

    // ---- what the face needs

    private static void refuse(int refusal) {
        if (refusal == NO_SUCH) {
            throw new IndexOutOfBoundsException("there is nothing with this number");
        }
        if (refusal == OUT_OF_RANGE) {
            throw new IllegalArgumentException("an argument is out of range");
        }
        if (refusal == NOT_NOW) {
            throw new IllegalStateException("this can't be done now");
        }
    }

    private static void requireThere(boolean isThere) {
        refuse(isThere ? FINE : NO_SUCH);
    }

    private static void requireRange(boolean isInRange) {
        refuse(isInRange ? FINE : OUT_OF_RANGE);
    }

    private static boolean isBetween(int value, int least, int greatest) {
        return value >= least && value <= greatest;
    }

    private static boolean isClickPlace(int x, int y) {
        return isBetween(x, -1000, 3000) && isBetween(y, -1000, 3000);
    }

    /** Every change of the bench comes behind this, so the survey can't outlive what it was taken of. */
    private void saveState() {
        saved.push(bench);
        survey.outdate();
    }

    private int refusalOf(Command command, int a, int b, int c, int d) {
        if (command == null) {
            return OUT_OF_RANGE;
        }
        switch (command) {
            case FIELD:
                return bench.refusalOfField(a, b);
            case MIC:
                return bench.refusalOfMicrophone(a, b);
            case WALL:
                return bench.refusalOfWall(a, b, c);
            case SCREEN:
                return bench.refusalOfScreen(a, b, c, d);
            case SET:
                return bench.refusalOfSetting(a, b);
            default:
                return bench.refusalOfClick(a, b, c);
        }
    }

    private void carryOut(Command command, int a, int b, int c, int d) {
        if (command == null) {
            return;
        }
        switch (command) {
            case FIELD:
                bench.startField(a, b);
                break;
            case MIC:
                bench.placeMicrophone(a, b);
                break;
            case WALL:
                bench.placeWall(a, b, c);
                break;
            case SCREEN:
                bench.placeScreen(a, b, c, d);
                break;
            case SET:
                bench.changeSetting(a, b);
                break;
            case CLICK:
                ear.hearClick(bench, a, b, c);
                break;
            default:
                ear.hearKnownClick(bench, a, b, c);
                break;
        }
    }

    /** For 6 to 9 the survey must be taken before. */
    private int valueOfWhole(int what) {
        switch (what) {
            case 0:
                return bench.columns;
            case 1:
                return bench.rows;
            case 2:
                return bench.microphones.count;
            case 3:
                return bench.walls.count;
            case 4:
                return bench.screens.count;
            case 5:
                return bench.clicks;
            case 6:
                return survey.hearerCount;
            case 7:
                return survey.pairCount();
            case 8:
                return survey.votesOf(survey.best);
            case 9:
                return survey.tiedCells;
            default:
                return bench.s;
        }
    }

    private static long mix(long h, long value) {
        return 31 * h + value;
    }

    private long mixMicrophones(long start) {
        Table microphones = bench.microphones;
        long h = start;
        for (int i = 0; i < microphones.count; i++) {
            for (int column = 0; column < HEARD + HEARD_VALUES; column++) {
                h = mix(h, microphones.at(i, column));
            }
            h = mix(h, survey.blameOf(bench, i));
        }
        return h;
    }

    private long mixTable(long start, int kind) {
        Table table = bench.tableOf(kind);
        long h = start;
        for (int i = 0; i < table.count; i++) {
            for (int column = 0; column < table.width; column++) {
                h = mix(h, table.at(i, column));
            }
        }
        return h;
    }

    private long mixCells(long start) {
        long h = start;
        for (int cell = 0; cell < bench.cellCount(); cell++) {
            h = mix(h, survey.votesOf(cell));
            h = mix(h, survey.errorOf(cell));
        }
        return h;
    }

    /** Rows of numbers, kept in one array that is made once and used again. */
    private static final class Table {
        final int capacity;
        final int width;
        private final int[] values;
        int count = 0;

        Table(int capacity, int width) {
            this.capacity = capacity;
            this.width = width;
            this.values = new int[Math.max(capacity * width, 0)];
        }

        boolean has(int row) {
            return row >= 0 && row < count;
        }

        boolean isFull() {
            return count >= capacity;
        }

        /** NONE where the table has no such row or column. */
        int at(int row, int column) {
            if (row < 0 || row >= count || column < 0 || column >= width) {
                return NONE;
            }
            return values[row * width + column];
        }

        void put(int row, int column, int value) {
            if (row < 0 || row >= count || column < 0 || column >= width) {
                return;
            }
            values[row * width + column] = value;
        }

        /** Appends a row of NONE and returns its number; a full table stays as it is. */
        int addRow() {
            if (isFull()) {
                return NONE;
            }
            int row = count;
            count++;
            for (int column = 0; column < width; column++) {
                put(row, column, NONE);
            }
            return row;
        }

        void dropRow(int row) {
            if (!has(row)) {
                return;
            }
            int behind = (count - row - 1) * width;
            System.arraycopy(values, (row + 1) * width, values, row * width, behind);
            count--;
        }

        void copyFrom(Table other) {
            System.arraycopy(other.values, 0, values, 0, Math.min(values.length, other.values.length));
            count = other.count;
        }
    }

    /** All that undo() restores: the field, what stands in it, the notes, the settings and s. */
    private static final class Bench {
        int columns = 10;
        int rows = 8;
        int clicks = 0;
        int s = 1;
        final Table microphones = new Table(MOST_MICROPHONES, HEARD + HEARD_VALUES);
        final Table walls = new Table(MOST_WALLS, PARTS[WALL]);
        final Table screens = new Table(MOST_SCREENS, PARTS[SCREEN]);
        final Table settings = new Table(SETTINGS, PARTS[SETTING]);

        Bench() {
            for (int i = 0; i < SETTINGS; i++) {
                settings.put(settings.addRow(), 0, FIRST_SETTINGS[i]);
            }
        }

        void copyFrom(Bench other) {
            columns = other.columns;
            rows = other.rows;
            clicks = other.clicks;
            s = other.s;
            microphones.copyFrom(other.microphones);
            walls.copyFrom(other.walls);
            screens.copyFrom(other.screens);
            settings.copyFrom(other.settings);
        }

        Table tableOf(int kind) {
            switch (kind) {
                case MICROPHONE:
                    return microphones;
                case WALL:
                    return walls;
                case SCREEN:
                    return screens;
                default:
                    return settings;
            }
        }

        int setting(int what) {
            return settings.at(what, 0);
        }

        int refusalOfField(int newColumns, int newRows) {
            return isBetween(newColumns, 2, 20) && isBetween(newRows, 2, 20) ? FINE : OUT_OF_RANGE;
        }

        int startField(int newColumns, int newRows) {
            int before = clicks;
            columns = newColumns;
            rows = newRows;
            clicks = 0;
            microphones.count = 0;
            walls.count = 0;
            screens.count = 0;
            return before;
        }

        int refusalOfMicrophone(int x, int y) {
            if (!isBetween(x, -500, 2500) || !isBetween(y, -500, 2500)) {
                return OUT_OF_RANGE;
            }
            return microphones.isFull() ? NOT_NOW : FINE;
        }

        int placeMicrophone(int x, int y) {
            int row = microphones.addRow();
            microphones.put(row, X, x);
            microphones.put(row, Y, y);
            microphones.put(row, CLOCK_ERROR, 0);
            microphones.put(row, OFFSET, 0);
            return row;
        }

        int refusalOfWall(int axis, int c, int loss) {
            if (!isBetween(axis, 0, 1) || !isBetween(c, -1000, 3000) || !isBetween(loss, 0, 100)) {
                return OUT_OF_RANGE;
            }
            return walls.isFull() ? NOT_NOW : FINE;
        }

        int placeWall(int axis, int c, int loss) {
            int row = walls.addRow();
            walls.put(row, AXIS, axis);
            walls.put(row, LINE, c);
            walls.put(row, WALL_LOSS, loss);
            return row;
        }

        int refusalOfScreen(int axis, int c, int a, int b) {
            if (!isBetween(axis, 0, 1) || !isBetween(c, -1000, 3000)) {
                return OUT_OF_RANGE;
            }
            if (!isBetween(a, -1000, 3000) || !isBetween(b, -1000, 3000) || a >= b) {
                return OUT_OF_RANGE;
            }
            return screens.isFull() ? NOT_NOW : FINE;
        }

        int placeScreen(int axis, int c, int a, int b) {
            int row = screens.addRow();
            screens.put(row, AXIS, axis);
            screens.put(row, LINE, c);
            screens.put(row, SCREEN_FROM, a);
            screens.put(row, SCREEN_TO, b);
            return row;
        }

        int refusalOfSetting(int what, int value) {
            if (!isBetween(what, 0, SETTINGS - 1)) {
                return OUT_OF_RANGE;
            }
            return isBetween(value, LEAST_SETTINGS[what], GREATEST_SETTINGS[what]) ? FINE : OUT_OF_RANGE;
        }

        int changeSetting(int what, int value) {
            int before = setting(what);
            settings.put(what, 0, value);
            return before;
        }

        int refusalOfClick(int x, int y, int time) {
            if (!isClickPlace(x, y) || !isBetween(time, 0, 100000)) {
                return OUT_OF_RANGE;
            }
            return microphones.count == 0 ? NOT_NOW : FINE;
        }

        boolean hasNoted(int microphone) {
            return microphones.at(microphone, NOTE) != NONE;
        }

        int cellCount() {
            return columns * rows;
        }

        boolean hasCell(int cell) {
            return cell >= 0 && cell < cellCount();
        }

        int columnOf(int cell) {
            return columns < 1 ? 0 : cell % columns;
        }

        int rowOf(int cell) {
            return columns < 1 ? 0 : cell / columns;
        }

        int wayTo(int microphone, int x, int y) {
            return Sound.way(microphones.at(microphone, X) - x, microphones.at(microphone, Y) - y);
        }

        int timeFor(int way) {
            int speed = settings.at(SPEED, 0);
            return speed < 1 ? 0 : way * 1000 / speed;
        }

        int timeFromCell(int cell, int microphone) {
            return timeFor(wayTo(microphone, 100 * columnOf(cell) + 50, 100 * rowOf(cell) + 50));
        }

        /** The strength that a wall leaves; all of it where there is no such wall. */
        int strengthBehind(int wall, int strength) {
            return walls.has(wall) ? strength * (100 - walls.at(wall, WALL_LOSS)) / 100 : strength;
        }

        int mirroredX(int wall, int x) {
            return walls.at(wall, AXIS) == 0 ? 2 * walls.at(wall, LINE) - x : x;
        }

        int mirroredY(int wall, int y) {
            return walls.at(wall, AXIS) == 0 ? y : 2 * walls.at(wall, LINE) - y;
        }

        /** Whether a screen takes the straight way from a place to a microphone. */
        boolean isScreened(int x, int y, int microphone) {
            int toX = microphones.at(microphone, X);
            int toY = microphones.at(microphone, Y);
            for (int i = 0; i < screens.count; i++) {
                int c = screens.at(i, LINE);
                int a = screens.at(i, SCREEN_FROM);
                int b = screens.at(i, SCREEN_TO);
                boolean takes = screens.at(i, AXIS) == 0
                        ? Sound.crosses(x, y, toX, toY, c, a, b)
                        : Sound.crosses(y, x, toY, toX, c, a, b);
                if (takes) {
                    return true;
                }
            }
            return false;
        }

        /** Every draw moves s on, whatever comes of it. */
        int draw(int below) {
            s = (int) ((1103515245L * s + 12345L) % 2147483648L);
            return below < 1 ? 0 : (s / 65536) % below;
        }
    }

    /** What sound does between two places, whatever stands on the bench. */
    private static final class Sound {
        private Sound() {
        }

        /** The root of dx * dx + dy * dy, bit by bit; no way on a bench needs more than 15 bits. */
        static int way(int dx, int dy) {
            long square = (long) dx * dx + (long) dy * dy;
            long root = 0;
            for (long bit = 1L << 14; bit > 0; bit >>= 1) {
                if ((root + bit) * (root + bit) <= square) {
                    root += bit;
                }
            }
            return (int) root;
        }

        static int strength(int way) {
            return way < 0 ? 0 : 100000 / (way + 100);
        }

        /** Whether the way from (p, pAcross) to (q, qAcross) passes the line at c between a and b. */
        static boolean crosses(int p, int pAcross, int q, int qAcross, int c, int a, int b) {
            if (Math.min(p, q) >= c || Math.max(p, q) <= c) {
                return false;
            }
            // Both sides are multiplied by the span, so nothing is rounded.
            long span = (long) q - p;
            long across = pAcross * span + ((long) qAcross - pAcross) * ((long) c - p);
            long from = Math.min(a * span, b * span);
            long to = Math.max(a * span, b * span);
            return from <= across && across <= to;
        }
    }

    /** The arrivals of a click at a microphone, in their order and without chance. */
    private static final class Arrivals {
        static final int KIND = 0;
        static final int WAY = 1;
        static final int TIME = 2;
        static final int STRENGTH = 3;
        static final int FIRST_WALL = 4;
        static final int SECOND_WALL = 5;

        final Table list = new Table(1 + MOST_WALLS * MOST_WALLS, 6);

        void collect(Bench bench, int x, int y, int microphone) {
            list.count = 0;
            if (!bench.isScreened(x, y, microphone)) {
                append(bench, bench.wayTo(microphone, x, y), NONE, NONE);
            }
            for (int i = 0; i < bench.walls.count; i++) {
                append(bench, bench.wayTo(microphone, bench.mirroredX(i, x), bench.mirroredY(i, y)), i, NONE);
            }
            if (bench.setting(ORDER) == 2) {
                collectSecondOrder(bench, x, y, microphone);
            }
        }

        private void collectSecondOrder(Bench bench, int x, int y, int microphone) {
            for (int i = 0; i < bench.walls.count; i++) {
                int onceX = bench.mirroredX(i, x);
                int onceY = bench.mirroredY(i, y);
                for (int j = 0; j < bench.walls.count; j++) {
                    if (j != i) {
                        int twiceX = bench.mirroredX(j, onceX);
                        int twiceY = bench.mirroredY(j, onceY);
                        append(bench, bench.wayTo(microphone, twiceX, twiceY), i, j);
                    }
                }
            }
        }

        private void append(Bench bench, int way, int firstWall, int secondWall) {
            int strength = bench.strengthBehind(firstWall, Sound.strength(way));
            int kind = (firstWall == NONE ? 0 : 1) + (secondWall == NONE ? 0 : 1);
            int row = list.addRow();
            list.put(row, KIND, kind);
            list.put(row, WAY, way);
            list.put(row, TIME, bench.timeFor(way));
            list.put(row, STRENGTH, bench.strengthBehind(secondWall, strength));
            list.put(row, FIRST_WALL, firstWall);
            list.put(row, SECOND_WALL, secondWall);
        }
    }

    /** Has the microphones of a bench hear clicks, with loss and jitter. */
    private static final class Ear {
        private final Arrivals coming = new Arrivals();

        /** Returns the number of microphones that noted something. */
        int hearClick(Bench bench, int x, int y, int time) {
            int noted = 0;
            for (int i = 0; i < bench.microphones.count; i++) {
                coming.collect(bench, x, y, i);
                listen(bench, i, time);
                if (bench.hasNoted(i)) {
                    noted++;
                }
            }
            bench.clicks++;
            return noted;
        }

        /** Sets the offsets by a click; returns the number of microphones whose offset is another one. */
        int hearKnownClick(Bench bench, int x, int y, int time) {
            Table microphones = bench.microphones;
            int changed = 0;
            for (int i = 0; i < microphones.count; i++) {
                int before = microphones.at(i, OFFSET);
                microphones.put(i, OFFSET, 0);
                coming.collect(bench, x, y, i);
                listen(bench, i, time);
                if (bench.hasNoted(i)) {
                    int due = time + bench.timeFor(bench.wayTo(i, x, y));
                    microphones.put(i, OFFSET, microphones.at(i, NOTE) - due);
                    microphones.put(i, NOTE, due);
                }
                if (microphones.at(i, OFFSET) != before) {
                    changed++;
                }
            }
            bench.clicks++;
            return changed;
        }

        /** Has a microphone note one of what is coming to it, or nothing. */
        private void listen(Bench bench, int microphone, int time) {
            int chosen = NONE;
            int chosenTime = 0;
            for (int i = 0; i < coming.list.count; i++) {
                boolean isLost = bench.draw(100) < bench.setting(LOSS);
                int moved = isLost ? 0 : drawJitter(bench);
                if (isLost || coming.list.at(i, Arrivals.STRENGTH) < bench.setting(THRESHOLD)) {
                    continue;
                }
                int arrivesAt = time + coming.list.at(i, Arrivals.TIME) + moved;
                if (chosen == NONE || isPreferred(bench, i, arrivesAt, chosen, chosenTime)) {
                    chosen = i;
                    chosenTime = arrivesAt;
                }
            }
            write(bench.microphones, microphone, chosen, chosenTime);
        }

        private static int drawJitter(Bench bench) {
            int jitter = bench.setting(JITTER);
            return jitter > 0 ? bench.draw(2 * jitter + 1) - jitter : 0;
        }

        private boolean isPreferred(Bench bench, int arrival, int time, int chosen, int chosenTime) {
            if (bench.setting(MODE) == 0) {
                return time < chosenTime;
            }
            return coming.list.at(arrival, Arrivals.STRENGTH) > coming.list.at(chosen, Arrivals.STRENGTH);
        }

        /** Writes down what a microphone has chosen; a choice of NONE empties its note. */
        private void write(Table microphones, int microphone, int chosen, int chosenTime) {
            int own = microphones.at(microphone, CLOCK_ERROR) - microphones.at(microphone, OFFSET);
            microphones.put(microphone, NOTE, chosen == NONE ? NONE : chosenTime + own);
            microphones.put(microphone, HEARD, coming.list.at(chosen, Arrivals.KIND));
            microphones.put(microphone, HEARD + 1, coming.list.at(chosen, Arrivals.STRENGTH));
            microphones.put(microphone, HEARD + 2, coming.list.at(chosen, Arrivals.FIRST_WALL));
            microphones.put(microphone, HEARD + 3, coming.list.at(chosen, Arrivals.SECOND_WALL));
        }
    }

    /** The votes and errors of all cells, and the cell that they find. */
    private static final class Survey {
        private final int[] votes = new int[MOST_CELLS];
        private final int[] errors = new int[MOST_CELLS];
        private final int[] hearers = new int[MOST_MICROPHONES];
        /** For each hearer, when the click would have come by its note, had it come from the cell in hand. */
        private final int[] starts = new int[MOST_MICROPHONES];
        int hearerCount = 0;
        /** The found cell. */
        int best = NONE;
        /** The number of cells with as many votes as the found cell. */
        int tiedCells = 0;
        private boolean isFresh = false;
        private int leftOut = NOBODY;

        void outdate() {
            isFresh = false;
        }

        /** Surveys the bench as if one microphone had noted nothing, unless that survey is still at hand. */
        void take(Bench bench, int without) {
            if (isFresh && leftOut == without) {
                return;
            }
            leftOut = without;
            isFresh = true;
            gatherHearers(bench);
            int cells = Math.min(bench.cellCount(), MOST_CELLS);
            for (int cell = 0; cell < cells; cell++) {
                judge(bench, cell);
            }
            choose(cells);
        }

        int pairCount() {
            return hearerCount * (hearerCount - 1) / 2;
        }

        /** 0 where there is no such cell. */
        int votesOf(int cell) {
            return isBetween(cell, 0, MOST_CELLS - 1) ? votes[cell] : 0;
        }

        int errorOf(int cell) {
            return isBetween(cell, 0, MOST_CELLS - 1) ? errors[cell] : 0;
        }

        private void gatherHearers(Bench bench) {
            hearerCount = 0;
            int microphones = Math.min(bench.microphones.count, MOST_MICROPHONES);
            for (int i = 0; i < microphones; i++) {
                if (i != leftOut && bench.hasNoted(i)) {
                    hearers[hearerCount] = i;
                    hearerCount++;
                }
            }
        }

        private void traceStarts(Bench bench, int cell) {
            for (int k = 0; k < hearerCount; k++) {
                int microphone = hearers[k];
                starts[k] = bench.microphones.at(microphone, NOTE) - bench.timeFromCell(cell, microphone);
            }
        }

        /** By how much the delay of two hearers differs from the one that is expected for the cell in hand. */
        private int gapOf(int k, int l) {
            return Math.abs(starts[k] - starts[l]);
        }

        private void judge(Bench bench, int cell) {
            traceStarts(bench, cell);
            int tolerance = bench.setting(TOLERANCE);
            int cellVotes = 0;
            int cellError = 0;
            for (int k = 0; k < hearerCount; k++) {
                for (int l = k + 1; l < hearerCount; l++) {
                    int difference = gapOf(k, l);
                    cellError += difference;
                    if (difference <= tolerance) {
                        cellVotes++;
                    }
                }
            }
            votes[cell] = cellVotes;
            errors[cell] = cellError;
        }

        private void choose(int cells) {
            best = NONE;
            tiedCells = 0;
            if (pairCount() == 0) {
                return;
            }
            int chosen = 0;
            for (int cell = 1; cell < cells; cell++) {
                boolean isAhead = votes[cell] > votes[chosen];
                boolean isCloser = votes[cell] == votes[chosen] && errors[cell] < errors[chosen];
                if (isAhead || isCloser) {
                    chosen = cell;
                }
            }
            for (int cell = 0; cell < cells; cell++) {
                if (votes[cell] == votes[chosen]) {
                    tiedCells++;
                }
            }
            best = chosen;
        }

        /** The sum of the rows or columns of the cells with as many votes as the found cell. */
        int sumOfTied(Bench bench, boolean down) {
            int sum = 0;
            for (int cell = 0; cell < bench.cellCount(); cell++) {
                if (votesOf(cell) == votesOf(best)) {
                    sum += down ? bench.rowOf(cell) : bench.columnOf(cell);
                }
            }
            return sum;
        }

        int blameOf(Bench bench, int microphone) {
            if (best == NONE) {
                return NONE;
            }
            traceStarts(bench, best);
            int tolerance = bench.setting(TOLERANCE);
            int count = 0;
            for (int k = 0; k < hearerCount; k++) {
                for (int l = k + 1; l < hearerCount; l++) {
                    boolean isOwnPair = hearers[k] == microphone || hearers[l] == microphone;
                    if (isOwnPair && gapOf(k, l) > tolerance) {
                        count++;
                    }
                }
            }
            return count;
        }

        int mostBlamed(Bench bench) {
            int suspected = NONE;
            int greatest = 0;
            for (int i = 0; i < bench.microphones.count; i++) {
                int own = blameOf(bench, i);
                if (own > greatest) {
                    suspected = i;
                    greatest = own;
                }
            }
            return suspected;
        }
    }

    /** The latest saved states, in a ring of benches that are made once. */
    private static final class UndoStack {
        private final Bench[] ring = new Bench[KEPT_STATES];
        private int next = 0;
        int depth = 0;

        UndoStack() {
            for (int i = 0; i < KEPT_STATES; i++) {
                ring[i] = new Bench();
            }
        }

        void push(Bench bench) {
            Bench place = ring[next];
            if (place != null) {
                place.copyFrom(bench);
            }
            next = (next + 1) % KEPT_STATES;
            depth = Math.min(depth + 1, KEPT_STATES);
        }

        void pop(Bench bench) {
            if (depth == 0) {
                return;
            }
            next = (next + KEPT_STATES - 1) % KEPT_STATES;
            depth--;
            Bench place = ring[next];
            if (place != null) {
                bench.copyFrom(place);
            }
        }
    }

    /** The commands that a text can hold. */
    private enum Command {
        FIELD("field", 2),
        MIC("mic", 2),
        WALL("wall", 3),
        SCREEN("screen", 4),
        SET("set", 2),
        CLICK("click", 3),
        KNOWN("known", 3);

        private static final Command[] ALL = values();

        final String word;
        final int numbers;

        Command(String word, int numbers) {
            this.word = word;
            this.numbers = numbers;
        }
    }

    /** The bytes of the command text. */
    private static final class CommandText {
        static final int MOST_BYTES = 150;

        private final int[] bytes = new int[MOST_BYTES];
        int length = 0;

        boolean isFull() {
            return length >= MOST_BYTES;
        }

        int append(int value) {
            if (!isFull()) {
                bytes[length] = value;
                length++;
            }
            return length;
        }

        int empty() {
            int before = length;
            length = 0;
            return before;
        }

        int byteAt(int index) {
            return isBetween(index, 0, MOST_BYTES - 1) ? bytes[index] : NONE;
        }

        /** The command whose word stands from one index to before another; null if there is none. */
        Command commandAt(int from, int to) {
            for (Command command : Command.ALL) {
                if (command != null && isWord(command.word, from, to)) {
                    return command;
                }
            }
            return null;
        }

        private boolean isWord(String word, int from, int to) {
            if (word.length() != to - from) {
                return false;
            }
            for (int i = 0; i < word.length(); i++) {
                if (word.charAt(i) != byteAt(from + i)) {
                    return false;
                }
            }
            return true;
        }
    }

    /** Reads a command text byte by byte and keeps the commands that it has read. */
    private static final class CommandReader {
        private static final int MOST_DIGITS = 5;
        private static final int MOST_NUMBERS = 4;
        /** The shortest command has eight bytes. */
        private static final int MOST_COMMANDS = CommandText.MOST_BYTES / 8;

        /** What the reader stands in. */
        private static final int FRONT = 0;
        private static final int WORD = 1;
        private static final int GAP = 2;
        private static final int NUMBER = 3;

        private final Command[] commands = new Command[MOST_COMMANDS];
        private final int[] numbers = new int[MOST_COMMANDS * MOST_NUMBERS];
        int count = 0;

        private int place = FRONT;
        private int wordStart = 0;
        private Command command = null;
        /** How many numbers of the command are complete. */
        private int numbersRead = 0;
        private int digits = 0;

        Command commandOf(int index) {
            return isBetween(index, 0, MOST_COMMANDS - 1) ? commands[index] : null;
        }

        int numberOf(int index, int which) {
            boolean isThere = isBetween(index, 0, MOST_COMMANDS - 1) && isBetween(which, 0, MOST_NUMBERS - 1);
            return isThere ? numbers[index * MOST_NUMBERS + which] : 0;
        }

        /** Returns the fault of the text, NONE if it has none. */
        int read(CommandText text) {
            count = 0;
            place = FRONT;
            for (int i = 0; i < text.length; i++) {
                int fault = step(text, i);
                if (fault != NONE) {
                    return fault;
                }
            }
            if (place == FRONT) {
                return NONE;
            }
            boolean isStrange = place == WORD && text.commandAt(wordStart, text.length) == null;
            return isStrange ? wordStart : text.length;
        }

        /** Takes in one byte; returns the fault that it shows, NONE if it shows none. */
        private int step(CommandText text, int index) {
            int value = text.byteAt(index);
            switch (place) {
                case FRONT:
                    return stepInFront(value, index);
                case WORD:
                    return stepInWord(text, value, index);
                case GAP:
                    return stepInGap(value, index);
                default:
                    return stepInNumber(value, index);
            }
        }

        private int stepInFront(int value, int index) {
            if (value == ' ') {
                return NONE;
            }
            if (!isLetter(value)) {
                return index;
            }
            wordStart = index;
            place = WORD;
            return NONE;
        }

        private int stepInWord(CommandText text, int value, int index) {
            if (isLetter(value)) {
                return NONE;
            }
            command = text.commandAt(wordStart, index);
            if (command == null) {
                return wordStart;
            }
            if (value != ' ') {
                return index;
            }
            numbersRead = 0;
            place = GAP;
            return NONE;
        }

        private int stepInGap(int value, int index) {
            if (value == ' ') {
                return NONE;
            }
            if (value == ';') {
                return endCommand(index);
            }
            if (!isDigit(value) || hasAllNumbers()) {
                return index;
            }
            putNumber(value - '0');
            digits = 1;
            place = NUMBER;
            return NONE;
        }

        private int stepInNumber(int value, int index) {
            if (value == ' ') {
                numbersRead++;
                place = GAP;
                return NONE;
            }
            if (value == ';') {
                numbersRead++;
                return endCommand(index);
            }
            if (!isDigit(value) || digits >= MOST_DIGITS) {
                return index;
            }
            putNumber(10 * numberOf(count, numbersRead) + value - '0');
            digits++;
            return NONE;
        }

        private int endCommand(int index) {
            if (!hasAllNumbers()) {
                return index;
            }
            if (count < MOST_COMMANDS) {
                commands[count] = command;
                count++;
            }
            place = FRONT;
            return NONE;
        }

        private boolean hasAllNumbers() {
            return command == null || numbersRead >= command.numbers;
        }

        private void putNumber(int value) {
            if (count < MOST_COMMANDS && numbersRead < MOST_NUMBERS) {
                numbers[count * MOST_NUMBERS + numbersRead] = value;
            }
        }

        private static boolean isLetter(int value) {
            return isBetween(value, 'a', 'z');
        }

        private static boolean isDigit(int value) {
            return isBetween(value, '0', '9');
        }
    }
}
