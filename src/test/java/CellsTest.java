/** Promises 16 to 26: pairs, cells, the suspect, and the values of the whole and its parts. */
public final class CellsTest {
    private static final int NONE = ClickBench.NONE;

    public static void main(String[] args) {
        promises16And17();
        promises18To20();
        promise21();
        promises22And23();
        promise24();
        promise25();
        promise26();
        Check.finish();
    }

    /** Four cells, and microphones in the middles of the upper two; the speed makes times of ways. */
    private static ClickBench four() {
        ClickBench bench = new ClickBench();
        bench.begin(2, 2);
        bench.set(0, 1000);
        bench.addMicrophone(50, 50);
        bench.addMicrophone(150, 50);
        return bench;
    }

    private static void promises16And17() {
        ClickBench bench = four();
        bench.addMicrophone(150, 150);
        Check.due("no delay without notes", NONE, bench.delay(0, 1));
        bench.remove(0, 2);
        bench.click(50, 50, 1000);
        bench.addMicrophone(150, 150);
        Check.due("delay", -100, bench.delay(0, 1));
        Check.due("delay, exchanged", 100, bench.delay(1, 0));
        Check.due("one has noted nothing", NONE, bench.delay(0, 2));
        Check.due("the other one has noted nothing", NONE, bench.delay(2, 0));
        Check.throwing("delay(0, 0)", Check.ARGUMENT, () -> bench.delay(0, 0));
        Check.throwing("delay(3, 3)", Check.INDEX, () -> bench.delay(3, 3));
        Check.throwing("delay(0, 3)", Check.INDEX, () -> bench.delay(0, 3));
        Check.throwing("delay(-1, 0)", Check.INDEX, () -> bench.delay(-1, 0));
        Check.due("expected 0", -100, bench.expected(0, 0, 1));
        Check.due("expected 1", 100, bench.expected(1, 0, 1));
        Check.due("expected 2", -41, bench.expected(2, 0, 1));
        Check.due("expected 3", 41, bench.expected(3, 0, 1));
        Check.due("expected, exchanged", -41, bench.expected(3, 1, 0));
        Check.due("expected of one that has noted nothing", -141, bench.expected(0, 0, 2));
        bench.set(0, 340);
        Check.due("expected by the present speed", -294, bench.expected(0, 0, 1));
        bench.addScreen(0, 100, -1000, 3000);
        Check.due("screens do not matter", -294, bench.expected(0, 0, 1));
        Check.throwing("expected(4, 0, 0)", Check.INDEX, () -> bench.expected(4, 0, 0));
        Check.throwing("expected(-1, 0, 1)", Check.INDEX, () -> bench.expected(-1, 0, 1));
        Check.throwing("expected(0, 3, 3)", Check.INDEX, () -> bench.expected(0, 3, 3));
        Check.throwing("expected(0, 0, -1)", Check.INDEX, () -> bench.expected(0, 0, -1));
        Check.throwing("expected(0, 0, 0)", Check.ARGUMENT, () -> bench.expected(0, 0, 0));
    }

    private static void cells(String when, ClickBench bench, int[] votes, int[] errors, int found) {
        for (int cell = 0; cell < votes.length; cell++) {
            Check.due(when + ": votes(" + cell + ")", votes[cell], bench.votes(cell));
            Check.due(when + ": error(" + cell + ")", errors[cell], bench.error(cell));
        }
        Check.due(when + ": found", found, bench.found());
    }

    private static void promises18To20() {
        ClickBench bench = four();
        cells("no click", bench, new int[4], new int[4], NONE);
        bench.click(50, 50, 0);
        int[] errors = {0, 200, 59, 141};
        cells("a click", bench, new int[] {1, 0, 0, 0}, errors, 0);
        bench.set(6, 58);
        cells("tolerance 58", bench, new int[] {1, 0, 0, 0}, errors, 0);
        bench.set(6, 59);
        cells("tolerance 59", bench, new int[] {1, 0, 1, 0}, errors, 0);
        bench.setClock(0, 500);
        bench.click(50, 50, 0);
        cells("no votes: the least error", bench, new int[4], new int[] {500, 300, 441, 359}, 1);
        bench.undo();
        cells("undone", bench, new int[] {1, 0, 1, 0}, errors, 0);
        bench.remove(0, 1);
        cells("no pair", bench, new int[4], new int[4], NONE);
        Check.throwing("votes(4)", Check.INDEX, () -> bench.votes(4));
        Check.throwing("votes(-1)", Check.INDEX, () -> bench.votes(-1));
        Check.throwing("error(4)", Check.INDEX, () -> bench.error(4));
        Check.throwing("error(-1)", Check.INDEX, () -> bench.error(-1));
        votesComeBeforeErrors();
        lowestNumber();
        greatestField();
    }

    private static void greatestField() {
        ClickBench bench = new ClickBench();
        bench.begin(20, 20);
        bench.set(6, 0);
        bench.addMicrophone(1950, 1950);
        bench.addMicrophone(0, 1950);
        bench.addMicrophone(1950, 0);
        bench.click(1950, 1950, 5);
        Check.due("the last cell is found", 399, bench.found());
        Check.due("its votes", 3, bench.votes(399));
        Check.due("its error", 0, bench.error(399));
        Check.due("its row", 19.0, bench.middle(true));
        Check.due("its column", 19.0, bench.middle(false));
        bench.setClock(0, -7);
        bench.click(1950, 1950, 5);
        Check.due("an error of the last cell", 14, bench.error(399));
        Check.throwing("votes(400)", Check.INDEX, () -> bench.votes(400));
    }

    /** The third clock is far off: the place has one vote of three, and other cells less error. */
    private static void votesComeBeforeErrors() {
        ClickBench bench = four();
        bench.addMicrophone(50, 150);
        bench.setClock(2, 200);
        bench.set(6, 0);
        bench.click(50, 50, 0);
        cells("a wrong clock", bench, new int[] {1, 0, 0, 0}, new int[] {400, 518, 800, 682}, 0);
        bench.setClock(2, -150);
        bench.click(50, 50, 0);
        Check.due("an error that is less", 1, bench.error(2) < bench.error(0) ? 1 : 0);
        Check.due("votes come before it", 0, bench.found());
        bench.set(0, 340);
        Check.due("the present speed matters", 0, bench.votes(0));
    }

    private static void lowestNumber() {
        ClickBench bench = new ClickBench();
        bench.begin(2, 2);
        bench.set(0, 1000);
        bench.addMicrophone(0, 100);
        bench.addMicrophone(200, 100);
        bench.click(100, 100, 0);
        cells("all alike, no votes", bench, new int[4], new int[] {88, 88, 88, 88}, 0);
        bench.set(6, 88);
        cells("all alike, all vote", bench, new int[] {1, 1, 1, 1}, new int[] {88, 88, 88, 88}, 0);
        bench.click(200, 100, 0);
        bench.set(6, 300);
        cells("the right ones alike", bench, new int[] {1, 1, 1, 1}, new int[] {288, 112, 288, 112}, 1);
    }

    private static void promise21() {
        ClickBench bench = four();
        Check.due("no click: row", -1.0, bench.middle(true));
        Check.due("no click: column", -1.0, bench.middle(false));
        bench.click(50, 50, 0);
        Check.due("one cell: row", 0.0, bench.middle(true));
        bench.set(6, 59);
        Check.due("two cells: row", 0.5, bench.middle(true));
        Check.due("two cells: column", 0.0, bench.middle(false));
        bench.set(6, 141);
        Check.due("three cells: row", 2.0 / 3.0, bench.middle(true));
        Check.due("three cells: column", 1.0 / 3.0, bench.middle(false));
        bench.setClock(1, -500);
        bench.set(6, 0);
        bench.click(50, 50, 0);
        Check.due("cells without votes: row", 0.5, bench.middle(true));
    }

    private static void promises22And23() {
        ClickBench bench = four();
        bench.addMicrophone(50, 150);
        Check.due("no found cell: blame", NONE, bench.blame(0));
        Check.due("no found cell: suspect", NONE, bench.suspect());
        bench.click(50, 50, 0);
        Check.due("all agree: blame", 0, bench.blame(2));
        Check.due("all agree: suspect", NONE, bench.suspect());
        bench.setClock(1, 20);
        bench.click(50, 50, 0);
        Check.due("a difference of the tolerance is no blame", 0, bench.blame(1));
        bench.setClock(1, 21);
        bench.click(50, 50, 0);
        Check.due("one more is", 2, bench.blame(1));
        bench.setClock(1, 200);
        bench.click(50, 50, 0);
        Check.due("blame 0", 1, bench.blame(0));
        Check.due("blame 1", 2, bench.blame(1));
        Check.due("blame 2", 1, bench.blame(2));
        Check.due("suspect", 1, bench.suspect());
        bench.addMicrophone(0, 0);
        Check.due("blame of one that noted nothing", 0, bench.blame(3));
        bench.setClock(0, -500);
        bench.setClock(2, 500);
        bench.set(6, 0);
        bench.click(50, 50, 0);
        bench.remove(0, 3);
        Check.due("no votes", 0, bench.whole(8));
        Check.due("blames alike", 2, bench.blame(2));
        Check.due("the lowest of those alike", 0, bench.suspect());
        bench.remove(0, 1);
        Check.due("a blame of 1 is enough", 0, bench.suspect());
        bench.remove(0, 1);
        Check.due("no pair: suspect", NONE, bench.suspect());
        Check.due("no pair: blame", NONE, bench.blame(0));
        Check.throwing("blame(1)", Check.INDEX, () -> bench.blame(1));
        Check.throwing("blame(-1)", Check.INDEX, () -> bench.blame(-1));
    }

    private static void promise24() {
        ClickBench bench = four();
        bench.addMicrophone(50, 150);
        bench.setClock(0, 241);
        bench.set(6, 0);
        bench.click(50, 50, 0);
        int found = bench.found();
        long digest = bench.digest();
        Check.due("without 0, as the others tell", 0, bench.foundWithout(0));
        Check.due("without 1, least error", 2, bench.foundWithout(1));
        Check.due("without 2, least error", 1, bench.foundWithout(2));
        Check.due("the whole is as before", 3, bench.whole(7));
        Check.due("found is as before", found, bench.found());
        Check.due("nothing is changed", digest, bench.digest());
        bench.addMicrophone(0, 0);
        Check.due("without one that noted nothing", found, bench.foundWithout(3));
        bench.remove(0, 2);
        Check.due("without one of two", NONE, bench.foundWithout(0));
        Check.throwing("foundWithout(3)", Check.INDEX, () -> bench.foundWithout(3));
        Check.throwing("foundWithout(-1)", Check.INDEX, () -> bench.foundWithout(-1));
        Check.due("after a refusal: found", bench.foundWithout(2), bench.found());
    }

    private static void promise25() {
        ClickBench bench = four();
        bench.addMicrophone(50, 150);
        bench.addWall(0, -1000, 100);
        bench.addScreen(0, 3000, 0, 1);
        bench.addScreen(0, 3000, 0, 1);
        bench.click(50, 50, 0);
        bench.calibrate(50, 50, 0);
        bench.click(50, 50, 0);
        bench.addMicrophone(0, 0);
        int[] due = {2, 2, 4, 1, 2, 3, 3, 3, 3, 1};
        for (int what = 0; what < due.length; what++) {
            Check.due("whole(" + what + ")", due[what], bench.whole(what));
        }
        bench.setS(123456789);
        Check.due("whole(10)", 123456789, bench.whole(10));
        bench.set(6, 500);
        Check.due("cells that tie", 4, bench.whole(9));
        bench.set(2, 100);
        bench.click(50, 50, 0);
        for (int what = 6; what < 10; what++) {
            Check.due("nothing noted: whole(" + what + ")", 0, bench.whole(what));
        }
        Check.throwing("whole(11)", Check.ARGUMENT, () -> bench.whole(11));
        Check.throwing("whole(-1)", Check.ARGUMENT, () -> bench.whole(-1));
    }

    private static void promise26() {
        ClickBench bench = new ClickBench();
        bench.addMicrophone(11, 12);
        bench.setClock(0, 13);
        bench.calibrate(11, 12, 0);
        bench.addWall(1, 21, 22);
        bench.addScreen(1, 31, 32, 33);
        int[][] due = {{11, 12, 13, 13}, {1, 21, 22}, {1, 31, 32, 33}, {340}};
        for (int kind = 0; kind < due.length; kind++) {
            int k = kind;
            int most = due[kind].length;
            for (int what = 0; what < most; what++) {
                Check.due("part(" + kind + ", 0, " + what + ")", due[kind][what], bench.part(kind, 0, what));
            }
            Check.throwing("what above, kind " + k, Check.ARGUMENT, () -> bench.part(k, 0, most));
            Check.throwing("what above, no such thing, kind " + k, Check.ARGUMENT, () -> bench.part(k, 9, most));
            Check.throwing("what below, kind " + k, Check.ARGUMENT, () -> bench.part(k, 0, -1));
            Check.throwing("no such thing, kind " + k, Check.INDEX, () -> bench.part(k, k == 3 ? 7 : 1, 0));
            Check.throwing("index below, kind " + k, Check.INDEX, () -> bench.part(k, -1, 0));
        }
        Check.due("the last setting", 20, bench.part(3, 6, 0));
        Check.throwing("part(4, 0, 0)", Check.ARGUMENT, () -> bench.part(4, 0, 0));
        Check.throwing("part(-1, 0, 0)", Check.ARGUMENT, () -> bench.part(-1, 0, 0));
    }
}
