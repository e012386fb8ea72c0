/** The field and promises 1 to 9: a test for each sentence that names a boundary case, behind its words. */
public final class FieldEdgesTest {
    private static final int NONE = ClickBench.NONE;
    private static final int LEAST = Integer.MIN_VALUE;
    private static final int GREATEST = Integer.MAX_VALUE;

    public static void main(String[] args) {
        sizesOfTheField();
        middlesOfCells();
        limitOfMicrophones();
        limitsOfWallsAndScreens();
        newObject();
        beginRanges();
        beginEmpties();
        microphoneRanges();
        microphoneWhenFull();
        clockRanges();
        clockWithoutMicrophone();
        wallRanges();
        wallWhenFull();
        screenRanges();
        screenWhenFull();
        removeRanges();
        removeMovesNumbers();
        removeWithoutThing();
        settingRanges();
        settingAnswers();
        sRanges();
        Check.finish();
    }

    private static void begins(ClickBench bench, int columns, int rows) {
        Check.due("begin(" + columns + ", " + rows + ")", 0, bench.begin(columns, rows));
        Check.due("columns", columns, bench.whole(0));
        Check.due("rows", rows, bench.whole(1));
        Check.due("votes of the last cell", 0, bench.votes(columns * rows - 1));
        Check.throwing("votes behind the last cell", Check.INDEX, () -> bench.votes(columns * rows));
    }

    private static void sizesOfTheField() {
        Check.says("THE FIELD", "The field has C columns and R rows of cells (2 to 20 each, 10 and 8 at first)");
        ClickBench bench = new ClickBench();
        Check.due("columns at first", 10, bench.whole(0));
        Check.due("rows at first", 8, bench.whole(1));
        Check.due("the last cell at first", 0, bench.votes(79));
        Check.throwing("a cell behind the last", Check.INDEX, () -> bench.votes(80));
        begins(bench, 2, 2);
        begins(bench, 20, 20);
        begins(bench, 2, 20);
        begins(bench, 20, 2);
    }

    private static void middlesOfCells() {
        Check.says("THE FIELD", "a cell is 100 by 100, and its middle is at (100 * column + 50, 100 * row + 50).");
        ClickBench bench = new ClickBench();
        bench.begin(20, 20);
        bench.set(0, 1000);
        bench.addMicrophone(1950, 1950);
        bench.addMicrophone(50, 50);
        Check.due("the first cell", 2687, bench.expected(0, 0, 1));
        Check.due("the last cell", -2687, bench.expected(399, 0, 1));
        Check.says("THE FIELD", "Cells are numbered row * C + column.");
        bench.begin(3, 2);
        bench.addMicrophone(250, 50);
        bench.addMicrophone(50, 150);
        Check.due("the last cell of row 0 is 2", -223, bench.expected(2, 0, 1));
        Check.due("the first cell of row 1 is 3", 223, bench.expected(3, 0, 1));
        Check.due("the last cell is 5", 100 - 200, bench.expected(5, 0, 1));
    }

    private static void limitOfMicrophones() {
        Check.says("THE FIELD", "There are at most 8 microphones, numbered from 0, each at a place (coordinates "
                + "from -500 to 2500), with a clock error (-500 to 500, 0 at first) and an offset that is "
                + "assumed for it (0 at first).");
        ClickBench bench = new ClickBench();
        Check.throwing("there is none at first", Check.INDEX, () -> bench.note(0));
        for (int i = 0; i < 8; i++) {
            Check.due("number", i, bench.addMicrophone(-500 + i, 2500 - i));
            Check.due("x", -500 + i, bench.part(0, i, 0));
            Check.due("y", 2500 - i, bench.part(0, i, 1));
            Check.due("clock error at first", 0, bench.part(0, i, 2));
            Check.due("offset at first", 0, bench.part(0, i, 3));
        }
        Check.due("eight", 8, bench.whole(2));
        Check.throwing("a ninth", Check.STATE, () -> bench.addMicrophone(0, 0));
        Check.throwing("number 8", Check.INDEX, () -> bench.note(8));
        Check.due("all of them hear", 8, bench.click(0, 2500, 0));
        Check.due("and make pairs", 28, bench.whole(7));
    }

    private static void limitsOfWallsAndScreens() {
        Check.says("THE FIELD", "There are at most 4 walls, numbered from 0: a wall is a line x = c (axis 0) or "
                + "y = c (axis 1), c from -1000 to 3000, with a loss (0 to 100 percent).");
        ClickBench bench = new ClickBench();
        bench.addMicrophone(0, 0);
        int[][] walls = {{0, -1000, 0}, {1, -1000, 100}, {0, 3000, 100}, {1, 3000, 0}};
        for (int i = 0; i < 4; i++) {
            Check.due("wall", i, bench.addWall(walls[i][0], walls[i][1], walls[i][2]));
        }
        Check.due("four mirrors and the straight way", 5, bench.arrivals(0, 0, 0));
        Check.throwing("a fifth wall", Check.STATE, () -> bench.addWall(0, 0, 0));
        Check.says("THE FIELD", "There are at most 4 screens, numbered from 0: a screen is a piece of a line x "
                + "= c (axis 0) or y = c (axis 1) between two other coordinates a and b (a less than b; all "
                + "from -1000 to 3000).");
        int[][] screens = {{0, -1000, -1000, 3000}, {1, 3000, -1000, -999}, {0, 3000, 2999, 3000}, {1, -1000, 0, 1}};
        for (int i = 0; i < 4; i++) {
            int[] s = screens[i];
            Check.due("screen", i, bench.addScreen(s[0], s[1], s[2], s[3]));
        }
        Check.throwing("a fifth screen", Check.STATE, () -> bench.addScreen(0, 0, 0, 1));
        for (int i = 0; i < 4; i++) {
            for (int what = 0; what < 4; what++) {
                Check.due("screen " + i + ", " + what, screens[i][what], bench.part(2, i, what));
            }
            for (int what = 0; what < 3; what++) {
                Check.due("wall " + i + ", " + what, walls[i][what], bench.part(1, i, what));
            }
        }
    }

    private static void newObject() {
        Check.says(1, "Creates a field of 10 times 8 cells without microphones, walls, screens and clicks, with "
                + "all settings and s as at first, an empty command text, no stop and an empty undo stack.");
        ClickBench bench = new ClickBench();
        int[] whole = {10, 8, 0, 0, 0, 0, 0, 0, 0, 0, 1};
        for (int what = 0; what < whole.length; what++) {
            Check.due("whole(" + what + ")", whole[what], bench.whole(what));
        }
        int[] settings = {340, 1, 0, 0, 10, 0, 20};
        for (int what = 0; what < settings.length; what++) {
            Check.due("setting " + what, settings[what], bench.part(3, what, 0));
        }
        Check.due("no stop", 0, bench.stop());
        Check.throwing("an empty stack", Check.STATE, bench::undo);
        Check.due("an empty text", 0, bench.clearCommands());
        Check.due("which runs", 0, bench.runCommands());
        Check.due("another object has its own state", 0, otherBench(bench).whole(2));
    }

    private static ClickBench otherBench(ClickBench bench) {
        bench.addMicrophone(0, 0);
        return new ClickBench();
    }

    private static void beginRefuses(int columns, int rows) {
        ClickBench bench = new ClickBench();
        bench.addMicrophone(1, 1);
        bench.addWall(0, 0, 0);
        bench.addScreen(0, 0, 0, 1);
        bench.click(1, 1, 1);
        String call = "begin(" + columns + ", " + rows + ")";
        Check.refused(bench, call, Check.ARGUMENT, () -> bench.begin(columns, rows));
    }

    private static void beginRanges() {
        Check.says(2, "`columns`: 2 to 20");
        for (int wrong : new int[] {LEAST, -2, 0, 1, 21, 22, GREATEST}) {
            beginRefuses(wrong, 8);
        }
        Check.says(2, "`rows`: 2 to 20");
        for (int wrong : new int[] {LEAST, -2, 0, 1, 21, 22, GREATEST}) {
            beginRefuses(8, wrong);
        }
        Check.says(2, "Throws `IllegalArgumentException` if an argument is out of range");
        beginRefuses(1, 21);
        beginRefuses(21, 1);
    }

    private static void beginEmpties() {
        Check.says(2, "Begins with a field of so many cells, without microphones, walls, screens and clicks; "
                + "settings and s stay.");
        ClickBench bench = new ClickBench();
        for (int i = 0; i < 8; i++) {
            bench.addMicrophone(i, i);
        }
        for (int i = 0; i < 4; i++) {
            bench.addWall(0, i, i);
            bench.addScreen(0, 3000, i, 9);
        }
        int[] values = {100, 2, 99, 50, 1000, 1, 500};
        for (int what = 0; what < values.length; what++) {
            bench.set(what, values[what]);
        }
        bench.click(0, 0, 0);
        bench.setS(GREATEST);
        Check.says(2, "Returns the number of clicks before.");
        Check.due("one click before", 1, bench.begin(2, 3));
        Check.due("none before", 0, bench.begin(2, 3));
        Check.says(2, "Begins with a field of so many cells, without microphones, walls, screens and clicks; "
                + "settings and s stay.");
        int[] whole = {2, 3, 0, 0, 0, 0, 0, 0, 0, 0, GREATEST};
        for (int what = 0; what < whole.length; what++) {
            Check.due("whole(" + what + ")", whole[what], bench.whole(what));
        }
        for (int what = 0; what < values.length; what++) {
            Check.due("setting " + what, values[what], bench.part(3, what, 0));
        }
        Check.throwing("no microphone", Check.INDEX, () -> bench.note(0));
        Check.throwing("no wall", Check.INDEX, () -> bench.part(1, 0, 0));
        Check.throwing("no screen", Check.INDEX, () -> bench.part(2, 0, 0));
        Check.due("a microphone is number 0 again", 0, bench.addMicrophone(0, 0));
        Check.due("and has noted nothing", NONE, bench.note(0));
        Check.due("and heard nothing", NONE, bench.heard(0, 0));
        Check.due("a wall is number 0 again", 0, bench.addWall(0, 0, 0));
        Check.due("a screen is number 0 again", 0, bench.addScreen(0, 0, 0, 1));
    }

    private static void microphoneRefuses(int x, int y) {
        ClickBench bench = new ClickBench();
        String call = "addMicrophone(" + x + ", " + y + ")";
        Check.refused(bench, call, Check.ARGUMENT, () -> bench.addMicrophone(x, y));
        Check.throwing(call + " saved no state: undo", Check.STATE, bench::undo);
    }

    private static void microphoneStands(int x, int y) {
        ClickBench bench = new ClickBench();
        Check.due("addMicrophone(" + x + ", " + y + ")", 0, bench.addMicrophone(x, y));
        Check.due("its x", x, bench.part(0, 0, 0));
        Check.due("its y", y, bench.part(0, 0, 1));
    }

    private static void microphoneRanges() {
        int[] wrong = {LEAST, -1000, -501, 2501, 3000, GREATEST};
        Check.says(3, "`x`: -500 to 2500");
        microphoneStands(-500, 0);
        microphoneStands(2500, 0);
        for (int x : wrong) {
            microphoneRefuses(x, 0);
        }
        Check.says(3, "`y`: -500 to 2500");
        microphoneStands(0, -500);
        microphoneStands(0, 2500);
        for (int y : wrong) {
            microphoneRefuses(0, y);
        }
        Check.says(3, "Throws `IllegalArgumentException` if an argument is out of range");
        microphoneRefuses(-501, 2501);
        Check.says(3, "Adds a microphone; it has noted nothing of the latest click. Undoable.");
        ClickBench bench = new ClickBench();
        bench.addMicrophone(0, 0);
        bench.click(0, 0, 9);
        bench.addMicrophone(0, 0);
        Check.due("note", NONE, bench.note(1));
        for (int what = 0; what < 4; what++) {
            Check.due("heard", NONE, bench.heard(1, what));
        }
        Check.due("the earlier one keeps its note", 9, bench.note(0));
        Check.due("no pair", 0, bench.whole(7));
        bench.undo();
        Check.due("undone", 1, bench.whole(2));
    }

    private static void microphoneWhenFull() {
        ClickBench bench = new ClickBench();
        Check.says(3, "Returns the number of the microphone.");
        for (int i = 0; i < 8; i++) {
            Check.due("addMicrophone", i, bench.addMicrophone(i, i));
        }
        Check.says(3, "Throws `IllegalStateException` if there are 8 microphones");
        Check.refused(bench, "a ninth", Check.STATE, () -> bench.addMicrophone(0, 0));
        bench.remove(0, 7);
        Check.due("there is room again", 7, bench.addMicrophone(0, 0));
        Check.refused(bench, "and none again", Check.STATE, () -> bench.addMicrophone(2500, 2500));
        bench.begin(2, 2);
        Check.due("there is room after begin()", 0, bench.addMicrophone(0, 0));
    }

    private static void clockRanges() {
        Check.says(4, "`error`: -500 to 500");
        ClickBench bench = new ClickBench();
        bench.addMicrophone(0, 0);
        Check.due("at first", 0, bench.setClock(0, -500));
        Check.due("the least", -500, bench.setClock(0, 500));
        Check.due("the greatest", 500, bench.part(0, 0, 2));
        Check.says(4, "Throws `IllegalArgumentException` if error is out of range");
        for (int wrong : new int[] {LEAST, -1000, -501, 501, 1000, GREATEST}) {
            Check.refused(bench, "setClock(0, " + wrong + ")", Check.ARGUMENT, () -> bench.setClock(0, wrong));
        }
        Check.says(4, "Returns the previous error.");
        Check.due("after refused ones", 500, bench.setClock(0, 0));
    }

    private static void clockWithoutMicrophone() {
        Check.says(4, "Throws `IndexOutOfBoundsException` if there is no such microphone");
        ClickBench bench = new ClickBench();
        Check.refused(bench, "none at all", Check.INDEX, () -> bench.setClock(0, 0));
        bench.addMicrophone(0, 0);
        bench.addMicrophone(0, 0);
        for (int wrong : new int[] {LEAST, -1, 2, 8, GREATEST}) {
            Check.refused(bench, "setClock(" + wrong + ", 0)", Check.INDEX, () -> bench.setClock(wrong, 0));
            Check.refused(bench, "both wrong", Check.INDEX, () -> bench.setClock(wrong, 501));
        }
        Check.due("the last one", 0, bench.setClock(1, 7));
        Check.due("alone", 0, bench.part(0, 0, 2));
    }

    private static void wallRefuses(int axis, int c, int loss) {
        ClickBench bench = new ClickBench();
        String call = "addWall(" + axis + ", " + c + ", " + loss + ")";
        Check.refused(bench, call, Check.ARGUMENT, () -> bench.addWall(axis, c, loss));
        Check.throwing(call + " saved no state: undo", Check.STATE, bench::undo);
    }

    private static void wallStands(int... wall) {
        ClickBench bench = new ClickBench();
        Check.due("addWall", 0, bench.addWall(wall[0], wall[1], wall[2]));
        for (int what = 0; what < 3; what++) {
            Check.due("part " + what + " of the wall", wall[what], bench.part(1, 0, what));
        }
    }

    private static void wallRanges() {
        Check.says(5, "`axis`: 0 or 1");
        wallStands(0, 5, 5);
        wallStands(1, 5, 5);
        for (int wrong : new int[] {LEAST, -1, 2, GREATEST}) {
            wallRefuses(wrong, 0, 0);
        }
        Check.says(5, "`c`: -1000 to 3000");
        wallStands(0, -1000, 5);
        wallStands(0, 3000, 5);
        for (int wrong : new int[] {LEAST, -1001, 3001, GREATEST}) {
            wallRefuses(0, wrong, 0);
        }
        Check.says(5, "`loss`: 0 to 100");
        wallStands(0, 5, 0);
        wallStands(0, 5, 100);
        for (int wrong : new int[] {LEAST, -1, 101, GREATEST}) {
            wallRefuses(0, 0, wrong);
        }
        Check.says(5, "Throws `IllegalArgumentException` if an argument is out of range");
        wallRefuses(2, 3001, 101);
    }

    private static void wallWhenFull() {
        Check.says(5, "Returns the number of the wall.");
        ClickBench bench = new ClickBench();
        for (int i = 0; i < 4; i++) {
            Check.due("addWall", i, bench.addWall(i % 2, i, i));
        }
        Check.says(5, "Throws `IllegalStateException` if there are 4 walls");
        Check.refused(bench, "a fifth", Check.STATE, () -> bench.addWall(0, 0, 0));
        bench.remove(1, 0);
        Check.due("there is room again", 3, bench.addWall(0, 0, 0));
        Check.refused(bench, "and none again", Check.STATE, () -> bench.addWall(1, 3000, 100));
    }

    private static void screenRefuses(int axis, int c, int a, int b) {
        ClickBench bench = new ClickBench();
        String call = "addScreen(" + axis + ", " + c + ", " + a + ", " + b + ")";
        Check.refused(bench, call, Check.ARGUMENT, () -> bench.addScreen(axis, c, a, b));
        Check.throwing(call + " saved no state: undo", Check.STATE, bench::undo);
    }

    private static void screenStands(int... screen) {
        ClickBench bench = new ClickBench();
        Check.due("addScreen", 0, bench.addScreen(screen[0], screen[1], screen[2], screen[3]));
        for (int what = 0; what < 4; what++) {
            Check.due("part " + what + " of the screen", screen[what], bench.part(2, 0, what));
        }
    }

    private static void screenRanges() {
        Check.says(6, "`axis`: 0 or 1");
        screenStands(0, 0, 0, 1);
        screenStands(1, 0, 0, 1);
        for (int wrong : new int[] {LEAST, -1, 2, GREATEST}) {
            screenRefuses(wrong, 0, 0, 1);
        }
        Check.says(6, "`c`: -1000 to 3000");
        screenStands(0, -1000, 0, 1);
        screenStands(0, 3000, 0, 1);
        for (int wrong : new int[] {LEAST, -1001, 3001, GREATEST}) {
            screenRefuses(0, wrong, 0, 1);
        }
        Check.says(6, "`a`: -1000 to 3000");
        screenStands(0, 0, -1000, 1);
        screenStands(0, 0, 2999, 3000);
        for (int wrong : new int[] {LEAST, -1001, 3000, 3001, GREATEST}) {
            screenRefuses(0, 0, wrong, 3000);
        }
        Check.says(6, "`b`: above a to 3000");
        screenStands(0, 0, 7, 8);
        screenStands(0, 0, -1000, -999);
        screenStands(0, 0, 7, 3000);
        for (int wrong : new int[] {LEAST, -1000, 6, 7, 3001, GREATEST}) {
            screenRefuses(0, 0, 7, wrong);
        }
        Check.says(6, "Throws `IllegalArgumentException` if an argument is out of range");
        screenRefuses(2, 3001, 3001, 3001);
        screenRefuses(0, 0, -1001, -1001);
    }

    private static void screenWhenFull() {
        Check.says(6, "Returns the number of the screen.");
        ClickBench bench = new ClickBench();
        for (int i = 0; i < 4; i++) {
            Check.due("addScreen", i, bench.addScreen(i % 2, i, i, i + 1));
        }
        Check.says(6, "Throws `IllegalStateException` if there are 4 screens");
        Check.refused(bench, "a fifth", Check.STATE, () -> bench.addScreen(0, 0, 0, 1));
        bench.remove(2, 3);
        Check.due("there is room again", 3, bench.addScreen(0, 0, 0, 1));
        Check.refused(bench, "and none again", Check.STATE, () -> bench.addScreen(1, 3000, -1000, 3000));
    }

    /** One microphone, two walls and three screens. */
    private static ClickBench oneTwoThree() {
        ClickBench bench = new ClickBench();
        bench.addMicrophone(5, 6);
        for (int i = 0; i < 2; i++) {
            bench.addWall(1, 70 + i, 8 + i);
        }
        for (int i = 0; i < 3; i++) {
            bench.addScreen(1, 90 + i, 10 + i, 20 + i);
        }
        return bench;
    }

    private static void removeRanges() {
        Check.says(7, "`kind`: 0 microphone, 1 wall, 2 screen");
        ClickBench bench = oneTwoThree();
        Check.due("a screen", 2, bench.remove(2, 0));
        Check.due("a wall", 1, bench.remove(1, 0));
        Check.due("a microphone", 0, bench.remove(0, 0));
        Check.says(7, "Returns the number of those of this kind that are left.");
        Check.due("the last wall", 0, bench.remove(1, 0));
        Check.due("screens are left", 2, bench.whole(4));
        Check.says(7, "Throws `IllegalArgumentException` if kind is out of range");
        for (int wrong : new int[] {LEAST, -1, 3, 4, GREATEST}) {
            Check.refused(bench, "remove(" + wrong + ", 0)", Check.ARGUMENT, () -> bench.remove(wrong, 0));
            Check.refused(bench, "both wrong", Check.ARGUMENT, () -> bench.remove(wrong, 9));
        }
    }

    private static void removeMovesNumbers() {
        Check.says(7, "Removes a microphone (with its note), a wall or a screen; the numbers of those behind it "
                + "decrease by 1.");
        for (int gone = 0; gone < 8; gone++) {
            ClickBench bench = new ClickBench();
            for (int i = 0; i < 8; i++) {
                bench.addMicrophone(100 * i, 0);
                bench.setClock(i, 10 * i);
            }
            bench.click(0, 0, 0);
            int[] notes = new int[8];
            for (int i = 0; i < 8; i++) {
                notes[i] = bench.note(i);
            }
            Check.due("left", 7, bench.remove(0, gone));
            for (int i = 0; i < 7; i++) {
                int was = i < gone ? i : i + 1;
                Check.due("its x", 100 * was, bench.part(0, i, 0));
                Check.due("its clock", 10 * was, bench.part(0, i, 2));
                Check.due("its note", notes[was], bench.note(i));
                Check.due("its strength", 100000 / (100 * was + 100), bench.heard(i, 1));
            }
            Check.throwing("number 7", Check.INDEX, () -> bench.note(7));
            Check.due("those that noted", 7, bench.whole(6));
        }
        for (int kind = 1; kind <= 2; kind++) {
            for (int gone = 0; gone < 4; gone++) {
                removedOfFour(kind, gone);
            }
        }
    }

    private static void removedOfFour(int kind, int gone) {
        ClickBench bench = new ClickBench();
        for (int i = 0; i < 4; i++) {
            bench.addWall(1, 10 + i, 20 + i);
            bench.addScreen(1, 10 + i, 20 + i, 30 + i);
        }
        Check.due("left", 3, bench.remove(kind, gone));
        for (int i = 0; i < 3; i++) {
            int was = i < gone ? i : i + 1;
            for (int what = 1; what < 2 + kind; what++) {
                Check.due("part of one of kind " + kind, 10 * what + was, bench.part(kind, i, what));
            }
        }
        Check.throwing("number 3", Check.INDEX, () -> bench.part(kind, 3, 0));
        Check.due("the other kind stays", 4, bench.whole(kind == 1 ? 4 : 3));
    }

    private static void removeWithoutThing() {
        Check.says(7, "Throws `IndexOutOfBoundsException` if there is nothing with this number");
        ClickBench bench = oneTwoThree();
        for (int kind = 0; kind < 3; kind++) {
            int k = kind;
            for (int wrong : new int[] {LEAST, -1, kind + 1, 8, GREATEST}) {
                String call = "remove(" + k + ", " + wrong + ")";
                Check.refused(bench, call, Check.INDEX, () -> bench.remove(k, wrong));
            }
            Check.due("the last number", kind, bench.remove(kind, kind));
        }
        ClickBench empty = new ClickBench();
        for (int kind = 0; kind < 3; kind++) {
            int k = kind;
            Check.refused(empty, "an empty field", Check.INDEX, () -> empty.remove(k, 0));
        }
    }

    private static final int[][] SETTINGS = {{100, 1000, 340}, {1, 2, 1}, {0, 100, 0}, {0, 50, 0}, {0, 1000, 10},
        {0, 1, 0}, {0, 500, 20}};

    private static void settingRanges() {
        Check.says(8, "`what`: 0 speed, 1 order, 2 loss of arrivals, 3 jitter, 4 threshold, 5 mode, 6 tolerance");
        ClickBench bench = new ClickBench();
        for (int what = 0; what < 7; what++) {
            Check.due("set(" + what + ", ..)", SETTINGS[what][2], bench.set(what, SETTINGS[what][1]));
            for (int other = 0; other < 7; other++) {
                int due = other <= what ? SETTINGS[other][1] : SETTINGS[other][2];
                Check.due("setting " + other + " behind it", due, bench.part(3, other, 0));
            }
        }
        Check.says(8, "Throws `IllegalArgumentException` if what or value is out of range");
        for (int wrong : new int[] {LEAST, -1, 7, 8, GREATEST}) {
            Check.refused(bench, "set(" + wrong + ", 1)", Check.ARGUMENT, () -> bench.set(wrong, 1));
        }
        Check.says(8, "`value`: the new value, in its range");
        for (int what = 0; what < 7; what++) {
            int w = what;
            int least = SETTINGS[what][0];
            int greatest = SETTINGS[what][1];
            Check.due("the least", greatest, bench.set(what, least));
            Check.due("the greatest", least, bench.set(what, greatest));
            for (int wrong : new int[] {LEAST, -1, least - 1, greatest + 1, GREATEST}) {
                Check.refused(bench, "set(" + w + ", " + wrong + ")", Check.ARGUMENT, () -> bench.set(w, wrong));
            }
        }
    }

    private static void settingAnswers() {
        Check.says(8, "Returns the previous value.");
        for (int what = 0; what < 7; what++) {
            ClickBench bench = new ClickBench();
            int w = what;
            Check.due("the first value", SETTINGS[what][2], bench.set(what, SETTINGS[what][0]));
            Check.throwing("refused", Check.ARGUMENT, () -> bench.set(w, SETTINGS[w][1] + 1));
            Check.due("not the refused one", SETTINGS[what][0], bench.set(what, SETTINGS[what][0]));
            Check.due("the same again", SETTINGS[what][0], bench.set(what, SETTINGS[what][1]));
        }
    }

    private static void sRanges() {
        Check.says(9, "`value`: 0 to 2147483647");
        ClickBench bench = new ClickBench();
        Check.due("at first", 1, bench.setS(0));
        Check.due("the least", 0, bench.setS(2147483647));
        Check.due("the greatest", 2147483647, bench.whole(10));
        Check.says(9, "Throws `IllegalArgumentException` if value is negative");
        for (int wrong : new int[] {LEAST, -2147483647, -65536, -1}) {
            Check.refused(bench, "setS(" + wrong + ")", Check.ARGUMENT, () -> bench.setS(wrong));
        }
        Check.says(9, "Returns the previous s.");
        Check.due("after refused ones", 2147483647, bench.setS(5));
        Check.due("the latest", 5, bench.setS(5));
    }
}
