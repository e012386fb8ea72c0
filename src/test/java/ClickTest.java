/** Promises 10 to 15: clicks, calibration, notes, and arrivals without chance. */
public final class ClickTest {
    private static final int NONE = ClickBench.NONE;

    public static void main(String[] args) {
        promise10();
        lossAndJitter();
        thresholdAndDraws();
        modes();
        promise11();
        promise12();
        promise13();
        promise14();
        screens();
        promise15();
        Check.finish();
    }

    /** A microphone at (0, 0) on a new bench. */
    private static ClickBench one() {
        ClickBench bench = new ClickBench();
        bench.addMicrophone(0, 0);
        return bench;
    }

    private static void heard(String when, ClickBench bench, int microphone, int... due) {
        for (int what = 0; what < due.length; what++) {
            Check.due(when + ": heard " + what, due[what], bench.heard(microphone, what));
        }
    }

    private static void promise10() {
        ClickBench bench = one();
        bench.addMicrophone(600, 0);
        Check.due("click", 2, bench.click(300, 400, 100000));
        Check.due("note 0", 101470, bench.note(0));
        Check.due("note 1", 101470, bench.note(1));
        Check.due("clicks", 1, bench.whole(5));
        bench.setClock(0, -500);
        bench.click(300, 400, 0);
        Check.due("a clock that goes wrong", 970, bench.note(0));
        Check.due("the other one", 1470, bench.note(1));
        bench.undo();
        Check.due("undone", 101470, bench.note(0));
        Check.due("undone clicks", 1, bench.whole(5));
        int[][] wrong = {{-1001, 0, 0}, {3001, 0, 0}, {0, -1001, 0}, {0, 3001, 0}, {0, 0, -1}, {0, 0, 100001}};
        ClickBench empty = new ClickBench();
        for (int[] w : wrong) {
            String call = "(" + w[0] + ", " + w[1] + ", " + w[2] + ")";
            Check.refused(bench, "click" + call, Check.ARGUMENT, () -> bench.click(w[0], w[1], w[2]));
            Check.refused(bench, "calibrate" + call, Check.ARGUMENT, () -> bench.calibrate(w[0], w[1], w[2]));
            Check.refused(empty, "empty: click" + call, Check.ARGUMENT, () -> empty.click(w[0], w[1], w[2]));
            Check.refused(empty, "empty: calibrate" + call, Check.ARGUMENT, () -> empty.calibrate(w[0], w[1], w[2]));
        }
        Check.refused(empty, "click without microphones", Check.STATE, () -> empty.click(0, 0, 0));
        Check.refused(empty, "calibrate without microphones", Check.STATE, () -> empty.calibrate(0, 0, 0));
        Check.due("a corner", 2, bench.click(-1000, 3000, 0));
        Check.due("the other corner", 2, bench.click(3000, -1000, 0));
    }

    /** From s = 1, s / 65536 is 16838, 5758, 10113, 17515, 31051, 5627, 23010 and so on. */
    private static void lossAndJitter() {
        ClickBench bench = one();
        bench.addMicrophone(0, 0);
        bench.addMicrophone(0, 0);
        bench.addMicrophone(0, 0);
        bench.set(2, 50);
        bench.set(3, 10);
        Check.due("click with loss and jitter", 2, bench.click(300, 400, 0));
        Check.due("38 is lost", NONE, bench.note(0));
        Check.due("58 is not, and 10113 % 21 - 10 is added", 1472, bench.note(1));
        Check.due("15 is lost", NONE, bench.note(2));
        Check.due("51 is not, and 5627 % 21 - 10 is added", 1480, bench.note(3));
        bench.setS(1);
        bench.set(3, 0);
        bench.set(2, 38);
        Check.due("a loss of 38: only 13 and 15 are less", 2, bench.click(300, 400, 0));
        Check.due("without jitter", 1470, bench.note(0));
        Check.due("the third is lost", NONE, bench.note(2));
        bench.set(2, 0);
        bench.set(3, 50);
        bench.setS(1);
        bench.click(300, 400, 0);
        Check.due("5758 % 101 - 50", 1470 + 1 - 50, bench.note(0));
        Check.due("17515 % 101 - 50", 1470 + 42 - 50, bench.note(1));
        bench.set(3, 1);
        bench.setS(1);
        bench.click(300, 400, 0);
        Check.due("5758 % 3 - 1", 1470 + 1 - 1, bench.note(0));
        Check.due("17515 % 3 - 1", 1470 + 1 - 1, bench.note(1));
        Check.due("5627 % 3 - 1", 1470 + 2 - 1, bench.note(2));
        Check.due("7419 % 3 - 1", 1470 + 0 - 1, bench.note(3));
        bench.set(2, 100);
        Check.due("all is lost", 0, bench.click(300, 400, 0));
        bench.setS(0);
        bench.click(300, 400, 0);
        Check.due("s after four draws from 0", draws(0, 4), bench.whole(10));
        bench.setS(2147483647);
        bench.click(300, 400, 0);
        Check.due("s after four draws from the greatest", draws(2147483647, 4), bench.whole(10));
    }

    private static long draws(long from, int times) {
        long s = from;
        for (int i = 0; i < times; i++) {
            s = (1103515245L * s + 12345) % 2147483648L;
        }
        return s;
    }

    private static void thresholdAndDraws() {
        ClickBench bench = one();
        bench.addWall(0, -100, 0);
        bench.set(4, 166);
        Check.due("a strength of 166 is heard", 1, bench.click(300, 400, 0));
        bench.set(4, 167);
        bench.setS(1);
        Check.due("but not at a threshold of 167", 0, bench.click(300, 400, 0));
        Check.due("two draws came all the same", draws(1, 2), bench.whole(10));
        bench.set(3, 5);
        bench.setS(1);
        bench.click(300, 400, 0);
        Check.due("four draws with jitter", draws(1, 4), bench.whole(10));
        bench.addScreen(0, 100, -1000, 3000);
        bench.setS(1);
        bench.click(300, 400, 0);
        Check.due("what a screen takes is not drawn for", draws(1, 2), bench.whole(10));
    }

    private static void modes() {
        ClickBench bench = one();
        bench.addScreen(0, 100, -1000, 3000);
        bench.addWall(0, -100, 90);
        bench.addWall(0, -200, 0);
        bench.addWall(0, -200, 0);
        bench.click(300, 400, 0);
        heard("mode 0 notes the earliest", bench, 0, 1, 13, 0, NONE);
        Check.due("its note", 1882, bench.note(0));
        bench.set(5, 1);
        bench.click(300, 400, 0);
        heard("mode 1 notes the strongest, the first of two", bench, 0, 1, 110, 1, NONE);
        Check.due("the note of the strongest", 2370, bench.note(0));
        bench.set(5, 0);
        bench.remove(1, 0);
        bench.click(300, 400, 0);
        heard("mode 0 notes the first of two", bench, 0, 1, 110, 0, NONE);
    }

    private static void promise11() {
        ClickBench bench = one();
        bench.addMicrophone(600, 0);
        bench.addMicrophone(300, 0);
        bench.setClock(1, 300);
        Check.due("calibrate", 1, bench.calibrate(300, 400, 7));
        Check.due("a draw for each arrival", draws(1, 3), bench.whole(10));
        Check.due("offset 0", 0, bench.part(0, 0, 3));
        Check.due("offset 1", 300, bench.part(0, 1, 3));
        Check.due("offset 2", 0, bench.part(0, 2, 3));
        Check.due("note 1 is set by the offset", 1477, bench.note(1));
        Check.due("calibrate again changes none", 0, bench.calibrate(0, 0, 0));
        Check.due("clicks with those of calibrate", 2, bench.whole(5));
        bench.click(300, 400, 0);
        Check.due("a click is noted less the offset", 1470, bench.note(1));
        bench.setClock(1, -20);
        bench.click(300, 400, 0);
        Check.due("the offset is as it was", 1150, bench.note(1));
        bench.set(2, 100);
        Check.due("nothing noted: the offsets become 0", 1, bench.calibrate(0, 0, 0));
        Check.due("offset 1 without a note", 0, bench.part(0, 1, 3));
        Check.due("note 1 without a note", NONE, bench.note(1));
        bench.undo();
        Check.due("calibrate undone", 300, bench.part(0, 1, 3));
        behindScreen();
    }

    private static void behindScreen() {
        ClickBench bench = one();
        bench.addScreen(0, 100, -1000, 3000);
        bench.addWall(0, -100, 0);
        Check.due("calibrate behind a screen", 1, bench.calibrate(300, 400, 50));
        Check.due("the offset is what the way by the wall takes longer", 1882 - 1470, bench.part(0, 0, 3));
        Check.due("the note is that of the straight way", 1520, bench.note(0));
        heard("it heard the wall", bench, 0, 1, 135, 0, NONE);
    }

    private static void promise12() {
        ClickBench bench = one();
        Check.due("no click", NONE, bench.note(0));
        bench.click(300, 400, 3);
        Check.due("a note", 1473, bench.note(0));
        bench.set(0, 1000);
        bench.setClock(0, 99);
        bench.set(4, 1000);
        bench.addScreen(0, 100, -1000, 3000);
        Check.due("a note stays whatever is set", 1473, bench.note(0));
        bench.click(300, 400, 3);
        Check.due("until the next click", NONE, bench.note(0));
        Check.throwing("note(1)", Check.INDEX, () -> bench.note(1));
        Check.throwing("note(-1)", Check.INDEX, () -> bench.note(-1));
    }

    private static void promise13() {
        ClickBench bench = one();
        heard("no click", bench, 0, NONE, NONE, NONE, NONE);
        bench.click(300, 400, 0);
        heard("straight", bench, 0, 0, 166, NONE, NONE);
        bench.addScreen(0, 100, -1000, 3000);
        bench.addWall(1, 3000, 0);
        bench.addWall(0, 2000, 50);
        bench.addWall(0, 2000, 10);
        bench.set(1, 2);
        bench.set(4, 0);
        bench.click(300, 400, 0);
        Check.due("two walls at one place mirror the place to itself", 1470, bench.note(0));
        heard("by two walls", bench, 0, 2, 74, 1, 2);
        bench.remove(1, 1);
        heard("the walls have the numbers that they had at the click", bench, 0, 2, 74, 1, 2);
        Check.throwing("heard(1, 9)", Check.INDEX, () -> bench.heard(1, 9));
        Check.throwing("heard(-1, 0)", Check.INDEX, () -> bench.heard(-1, 0));
        Check.throwing("heard(0, 4)", Check.ARGUMENT, () -> bench.heard(0, 4));
        Check.throwing("heard(0, -1)", Check.ARGUMENT, () -> bench.heard(0, -1));
    }

    private static void promise14() {
        ClickBench bench = one();
        Check.due("straight alone", 1, bench.arrivals(300, 400, 0));
        for (int walls = 1; walls <= 4; walls++) {
            bench.addWall(walls % 2, 100 * walls, 100);
            bench.set(1, 1);
            Check.due("order 1, walls " + walls, 1 + walls, bench.arrivals(300, 400, 0));
            bench.set(1, 2);
            Check.due("order 2, walls " + walls, 1 + walls * walls, bench.arrivals(300, 400, 0));
        }
        bench.set(4, 1000);
        bench.set(2, 100);
        Check.due("whatever the threshold and the loss are", 17, bench.arrivals(-1000, 3000, 0));
        Check.due("nothing is drawn", 1, bench.whole(10));
        bench.addScreen(0, 100, -1000, 3000);
        Check.due("less the straight one", 16, bench.arrivals(300, 400, 0));
        Check.throwing("arrivals(0, 0, 1)", Check.INDEX, () -> bench.arrivals(0, 0, 1));
        Check.throwing("arrivals(-1001, 0, -1)", Check.INDEX, () -> bench.arrivals(-1001, 0, -1));
        Check.throwing("arrivals(-1001, 0, 0)", Check.ARGUMENT, () -> bench.arrivals(-1001, 0, 0));
        Check.throwing("arrivals(3001, 0, 0)", Check.ARGUMENT, () -> bench.arrivals(3001, 0, 0));
        Check.throwing("arrivals(0, -1001, 0)", Check.ARGUMENT, () -> bench.arrivals(0, -1001, 0));
        Check.throwing("arrivals(0, 3001, 0)", Check.ARGUMENT, () -> bench.arrivals(0, 3001, 0));
    }

    private static void screens() {
        screen("ends are included: above", 0, 150, 200, 300, 300, 400, true);
        screen("ends are included: below", 0, 150, 100, 200, 300, 400, true);
        screen("just above", 0, 150, 201, 300, 300, 400, false);
        screen("just below", 0, 150, 100, 199, 300, 400, false);
        screen("exactly, not rounded: within", 0, 150, 200, 201, 300, 401, true);
        screen("exactly, not rounded: not down", 0, 150, -1000, 200, 300, 401, false);
        screen("exactly, not rounded: not up", 0, 150, 201, 3000, 300, 401, false);
        screen("negative: within", 0, -150, -201, -200, -300, -401, true);
        screen("negative: not down", 0, -150, -1000, -201, -300, -401, false);
        screen("negative: not up", 0, -150, -200, 3000, -300, -401, false);
        screen("a place at the line", 0, 300, -1000, 3000, 300, 400, false);
        screen("a microphone at the line", 0, 0, -1000, 3000, 300, 400, false);
        screen("a way along the line", 0, 0, -1000, 3000, 0, 400, false);
        screen("a line behind the place", 0, 301, -1000, 3000, 300, 400, false);
        screen("a line behind the microphone", 0, -1, -1000, 3000, 300, 400, false);
        screen("a level way at the end", 0, 150, 0, 1, 300, 0, true);
        screen("a level way beside the end", 0, 150, 1, 2, 300, 0, false);
        screen("the greatest numbers", 0, 1, 1, 2, 3000, 3000, true);
    }

    private static void screen(String what, int axis, int c, int a, int b, int x, int y, boolean takes) {
        ClickBench bench = one();
        bench.addScreen(axis, c, a, b);
        Check.due(what, takes ? 0 : 1, bench.arrivals(x, y, 0));
        ClickBench turned = one();
        turned.addScreen(1 - axis, c, a, b);
        Check.due(what + ", x and y exchanged", takes ? 0 : 1, turned.arrivals(y, x, 0));
        ClickBench last = one();
        last.addScreen(0, 2999, 2999, 3000);
        last.addScreen(axis, c, a, b);
        Check.due(what + ", behind another screen", takes ? 0 : 1, last.arrivals(x, y, 0));
    }

    private static void arrival(ClickBench bench, int index, int... due) {
        for (int what = 0; what < due.length; what++) {
            Check.due("arrival " + index + ", " + what, due[what], bench.arrival(300, 400, 0, index, what));
        }
    }

    private static void promise15() {
        ClickBench bench = one();
        bench.addWall(0, -100, 95);
        bench.addWall(1, 1000, 5);
        arrival(bench, 0, 0, 500, 1470, 166);
        arrival(bench, 1, 1, 640, 1882, 6);
        arrival(bench, 2, 1, 1627, 4785, 54);
        arrival(bench, 3, NONE, NONE, NONE, NONE);
        bench.set(1, 2);
        bench.setClock(0, 500);
        bench.set(4, 1000);
        arrival(bench, 3, 2, 1676, 4929, 1);
        arrival(bench, 4, 2, 1676, 4929, 2);
        arrival(bench, 5, NONE, NONE, NONE, NONE);
        bench.set(0, 1000);
        arrival(bench, 0, 0, 500, 500, 166);
        bench.set(0, 100);
        arrival(bench, 1, 1, 640, 6400, 6);
        Check.due("a great index", NONE, bench.arrival(300, 400, 0, Integer.MAX_VALUE, 0));
        Check.due("way 900", 100, bench.arrival(900, 0, 0, 0, 3));
        Check.due("way 901", 99, bench.arrival(901, 0, 0, 0, 3));
        Check.due("a way of 0", 1000, bench.arrival(0, 0, 0, 0, 3));
        twoWallsInOneDirection();
        Check.throwing("no microphone", Check.INDEX, () -> bench.arrival(-1001, 0, 1, -1, 4));
        Check.throwing("x", Check.ARGUMENT, () -> bench.arrival(-1001, 0, 0, 0, 0));
        Check.throwing("y", Check.ARGUMENT, () -> bench.arrival(0, 3001, 0, 0, 0));
        Check.throwing("index", Check.ARGUMENT, () -> bench.arrival(0, 0, 0, -1, 0));
        Check.throwing("what", Check.ARGUMENT, () -> bench.arrival(0, 0, 0, 0, 4));
        Check.throwing("what below", Check.ARGUMENT, () -> bench.arrival(0, 0, 0, 9, -1));
    }

    /** A place at x = 0 by the wall x = -1000 and then x = 3000 comes to 8000, the other way to -8000. */
    private static void twoWallsInOneDirection() {
        ClickBench bench = new ClickBench();
        bench.addMicrophone(-500, 0);
        bench.addWall(0, -1000, 0);
        bench.addWall(0, 3000, 0);
        bench.set(1, 2);
        Check.due("by wall 0, then 1", 8500, bench.arrival(0, 0, 0, 3, 1));
        Check.due("by wall 1, then 0", 7500, bench.arrival(0, 0, 0, 4, 1));
    }
}
