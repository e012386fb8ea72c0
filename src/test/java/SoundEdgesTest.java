/** Sound, clicks and promises 10 to 15: a test for each sentence that names a boundary case, behind its words. */
public final class SoundEdgesTest {
    private static final int NONE = ClickBench.NONE;
    private static final int LEAST = Integer.MIN_VALUE;
    private static final int GREATEST = Integer.MAX_VALUE;

    private static final int[] WRONG_PLACES = {LEAST, -2000, -1001, 3001, 4000, GREATEST};
    private static final int[] WRONG_MICROPHONES = {LEAST, -1, 1, 8, GREATEST};

    public static void main(String[] args) {
        roots();
        floors();
        times();
        strengths();
        losses();
        mirrors();
        straightWay();
        sidesOfScreens();
        endsOfScreens();
        screensOfRows();
        firstOrder();
        secondOrder();
        screensTakeNothingElse();
        lossOfArrivals();
        jitter();
        drawing();
        orderOfHearing();
        timeOfArrival();
        threshold();
        modes();
        notesNothing();
        notesStay();
        clickRanges();
        clickAnswers();
        calibrateRanges();
        calibrateOffsets();
        calibrateAnswers();
        notes();
        heards();
        arrivalCounts();
        arrivalValues();
        Check.finish();
    }

    /** A microphone at (0, 0) on a new bench. */
    private static ClickBench one() {
        ClickBench bench = new ClickBench();
        bench.addMicrophone(0, 0);
        return bench;
    }

    private static void arrival(ClickBench bench, int x, int y, int index, int... due) {
        for (int what = 0; what < due.length; what++) {
            String call = "arrival(" + x + ", " + y + ", 0, " + index + ", " + what + ")";
            Check.due(call, due[what], bench.arrival(x, y, 0, index, what));
        }
    }

    private static void heard(ClickBench bench, int microphone, int... due) {
        for (int what = 0; what < due.length; what++) {
            Check.due("heard(" + microphone + ", " + what + ")", due[what], bench.heard(microphone, what));
        }
    }

    private static void way(int x, int y, int due) {
        Check.due("way to (" + x + ", " + y + ")", due, one().arrival(x, y, 0, 0, 1));
    }

    private static void roots() {
        Check.says("Terms", "The root of a number n is the greatest number whose square is at most n.");
        way(0, 0, 0);
        way(0, 1, 1);
        way(1, 1, 1);
        way(-2, 1, 2);
        way(2, 2, 2);
        way(0, -3, 3);
        way(3, 1, 3);
        way(3, 3, 4);
        way(12, 12, 16);
        way(18, -6, 18);
        way(3, 4, 5);
        way(-6, 8, 10);
        way(3000, 3000, 4242);
        way(2999, 3000, 4241);
        way(3000, 1, 3000);
        Check.says("SOUND", "The way between two places (with differences dx and dy) is the root of dx * dx + "
                + "dy * dy.");
        ClickBench bench = new ClickBench();
        bench.addMicrophone(-500, 2500);
        bench.addWall(0, -1000, 0);
        bench.addWall(0, 3000, 0);
        bench.set(1, 2);
        arrival(bench, 3000, -1000, 3, 2, 12020);
    }

    private static void floors() {
        Check.says("Terms", "floor(a / b) rounds towards minus infinity.");
        ClickBench bench = one();
        arrival(bench, 1, 0, 0, 0, 1, 2, 990);
        arrival(bench, 1, 1, 0, 0, 1, 2, 990);
    }

    private static void timesAt(int speed, int... due) {
        int[] ways = {0, 1, 2, 16, 17, 33, 34, 500};
        ClickBench bench = one();
        bench.set(0, speed);
        for (int i = 0; i < ways.length; i++) {
            arrival(bench, ways[i], 0, 0, 0, ways[i], due[i]);
        }
    }

    private static void times() {
        Check.says("SOUND", "Sound takes floor(way * 1000 / v) units of time for it, with the speed v (100 to "
                + "1000, 340 at first).");
        arrival(one(), 500, 0, 0, 0, 500, 1470);
        timesAt(340, 0, 2, 5, 47, 50, 97, 100, 1470);
        timesAt(100, 0, 10, 20, 160, 170, 330, 340, 5000);
        timesAt(101, 0, 9, 19, 158, 168, 326, 336, 4950);
        timesAt(999, 0, 1, 2, 16, 17, 33, 34, 500);
        timesAt(1000, 0, 1, 2, 16, 17, 33, 34, 500);
        ClickBench bench = new ClickBench();
        bench.addMicrophone(-500, 2500);
        bench.addWall(0, -1000, 0);
        bench.addWall(0, 3000, 0);
        bench.set(1, 2);
        bench.set(0, 100);
        arrival(bench, 3000, -1000, 3, 2, 12020, 120200, 8);
    }

    private static void strengths() {
        Check.says("SOUND", "Its strength is floor(100000 / (way + 100)), and for each wall that mirrors it, "
                + "one after the other, it becomes floor(strength * (100 - loss) / 100).");
        int[][] due = {{0, 1000}, {1, 990}, {24, 806}, {25, 800}, {899, 100}, {900, 100}, {901, 99}, {3000, 32}};
        for (int[] d : due) {
            arrival(one(), d[0], 0, 0, 0, d[0], d[0] * 1000 / 340, d[1]);
        }
        ClickBench far = new ClickBench();
        far.addMicrophone(-500, 0);
        far.addWall(0, -1000, 0);
        far.addWall(0, 3000, 0);
        far.set(1, 2);
        far.set(0, 1000);
        arrival(far, 490, 0, 3, 2, 8990, 8990, 11);
        arrival(far, 491, 0, 3, 2, 8991, 8991, 10);
        arrival(far, 1400, 0, 3, 2, 9900, 9900, 10);
        arrival(far, 1401, 0, 3, 2, 9901, 9901, 9);
    }

    private static void strengthBehind(int firstLoss, int secondLoss, int first, int second, int both, int turned) {
        ClickBench bench = one();
        bench.addWall(0, -100, firstLoss);
        bench.addWall(1, 1000, secondLoss);
        bench.set(1, 2);
        Check.due("straight", 166, bench.arrival(300, 400, 0, 0, 3));
        Check.due("by the first wall", first, bench.arrival(300, 400, 0, 1, 3));
        Check.due("by the second wall", second, bench.arrival(300, 400, 0, 2, 3));
        Check.due("by the first, then the second", both, bench.arrival(300, 400, 0, 3, 3));
        Check.due("by the second, then the first", turned, bench.arrival(300, 400, 0, 4, 3));
    }

    /** Before a loss the strengths are 135 by the first wall, 57 by the second and 56 by both. */
    private static void losses() {
        Check.says("SOUND", "Its strength is floor(100000 / (way + 100)), and for each wall that mirrors it, "
                + "one after the other, it becomes floor(strength * (100 - loss) / 100).");
        strengthBehind(0, 0, 135, 57, 56, 56);
        strengthBehind(100, 0, 0, 57, 0, 0);
        strengthBehind(0, 100, 135, 0, 0, 0);
        strengthBehind(1, 99, 133, 0, 0, 0);
        strengthBehind(99, 1, 1, 56, 0, 0);
        strengthBehind(50, 50, 67, 28, 14, 14);
        strengthBehind(5, 95, 128, 2, 2, 1);
    }

    private static void mirrors() {
        Check.says("SOUND", "A wall x = c mirrors a place (x, y) to (2 * c - x, y), a wall y = c to (x, 2 * c - "
                + "y).");
        ClickBench bench = one();
        bench.addWall(0, 50, 0);
        bench.addWall(1, 70, 0);
        arrival(bench, 50, 0, 1, 1, 50);
        arrival(bench, 0, 70, 2, 1, 70);
        arrival(bench, 100, 0, 1, 1, 0);
        arrival(bench, 0, 140, 2, 1, 0);
        arrival(bench, -1000, 0, 1, 1, 1100);
        arrival(bench, 0, -1000, 2, 1, 1140);
        ClickBench wide = one();
        wide.addWall(0, -1000, 0);
        wide.addWall(1, 3000, 0);
        arrival(wide, 3000, 0, 1, 1, 5000);
        arrival(wide, 0, -1000, 2, 1, 7000);
        arrival(wide, 0, 3000, 2, 1, 3000);
    }

    private static void straightWay() {
        Check.says("SOUND", "(1) directly (kind 0), if no screen takes the straight way:");
        ClickBench bench = one();
        arrival(bench, 300, 400, 0, 0, 500);
        for (int i = 0; i < 3; i++) {
            bench.addScreen(i % 2, 100, 500, 600);
            arrival(bench, 300, 400, 0, 0, 500);
        }
        bench.addScreen(1, 100, 0, 600);
        Check.due("the last of four screens takes it", 0, bench.arrivals(300, 400, 0));
        bench.remove(2, 3);
        Check.due("the screen is gone", 1, bench.arrivals(300, 400, 0));
        bench.remove(2, 0);
        bench.addScreen(1, 100, 0, 600);
        bench.addScreen(1, 100, 500, 600);
        Check.due("one of the middle takes it", 0, bench.arrivals(300, 400, 0));
    }

    private static void screen(String what, int axis, int[] screen, int x, int y, boolean takes) {
        ClickBench bench = one();
        bench.addScreen(axis, screen[0], screen[1], screen[2]);
        Check.due(what, takes ? 0 : 1, bench.arrivals(x, y, 0));
    }

    private static void sidesOfScreens() {
        Check.says("SOUND", "a screen x = c takes the way from (px, py) to (qx, qy) if one of px and qx is less "
                + "than c and the other one is greater, and the point of the way at x = c has a y from a to b, "
                + "ends included (exactly, not rounded);");
        int[] ahead = {200, -1000, 3000};
        screen("just behind the line", 0, ahead, 201, 0, true);
        screen("on the line", 0, ahead, 200, 0, false);
        screen("just in front of it", 0, ahead, 199, 0, false);
        int[] back = {-200, -1000, 3000};
        screen("just behind the line, backwards", 0, back, -201, 0, true);
        screen("on the line, backwards", 0, back, -200, 0, false);
        screen("just in front of it, backwards", 0, back, -199, 0, false);
        int[] here = {0, -1000, 3000};
        screen("the microphone on the line", 0, here, 500, 5, false);
        screen("the microphone on the line, backwards", 0, here, -500, 5, false);
        screen("both on the line", 0, here, 0, 500, false);
        screen("the microphone just behind the line", 0, new int[] {-1, -1000, 3000}, 500, 0, false);
        screen("the microphone just in front of it", 0, new int[] {1, -1000, 3000}, 500, 0, true);
        screen("click and microphone at one place", 0, ahead, 0, 0, false);
    }

    private static void endsOfScreens() {
        Check.says("SOUND", "a screen x = c takes the way from (px, py) to (qx, qy) if one of px and qx is less "
                + "than c and the other one is greater, and the point of the way at x = c has a y from a to b, "
                + "ends included (exactly, not rounded);");
        screen("at b", 0, new int[] {150, 100, 200}, 300, 400, true);
        screen("above b", 0, new int[] {150, 100, 199}, 300, 400, false);
        screen("at a", 0, new int[] {150, 200, 300}, 300, 400, true);
        screen("below a", 0, new int[] {150, 201, 300}, 300, 400, false);
        screen("backwards at b", 0, new int[] {-150, -300, -200}, -300, -400, true);
        screen("backwards above b", 0, new int[] {-150, -300, -201}, -300, -400, false);
        screen("backwards at a", 0, new int[] {-150, -200, -100}, -300, -400, true);
        screen("backwards below a", 0, new int[] {-150, -199, -100}, -300, -400, false);
        screen("a third above 1", 0, new int[] {1, 1, 2}, 3, 4, true);
        screen("a third above b", 0, new int[] {1, 0, 1}, 3, 4, false);
        screen("a third below 3", 0, new int[] {2, 2, 3}, 3, 4, true);
        screen("a third below a", 0, new int[] {2, 3, 4}, 3, 4, false);
        screen("minus a third below -1", 0, new int[] {1, -2, -1}, 3, -4, true);
        screen("minus a third below a", 0, new int[] {1, -1, 0}, 3, -4, false);
        screen("a small part above 0", 0, new int[] {1, -1000, 0}, 3000, 1, false);
        screen("a small part above 0, within", 0, new int[] {1, 0, 1}, 3000, 1, true);
        screen("a small part below 0", 0, new int[] {1, 0, 3000}, 3000, -1, false);
        screen("a level way along a", 0, new int[] {1, 7, 3000}, 3000, 7, false);
        ClickBench level = new ClickBench();
        level.addMicrophone(0, 7);
        level.addScreen(0, 1, 7, 3000);
        Check.due("a level way at a", 0, level.arrivals(3000, 7, 0));
        Check.due("a level way from the other side", 1, level.arrivals(-1000, 7, 0));
        farScreens();
    }

    /** The greatest numbers that a screen can be reckoned with. */
    private static void farScreens() {
        ClickBench bench = new ClickBench();
        bench.addMicrophone(-500, -500);
        bench.addScreen(0, 2999, 2999, 3000);
        Check.due("through its lower end", 0, bench.arrivals(3000, 3000, 0));
        Check.due("just below it", 1, bench.arrivals(3000, 2999, 0));
        ClickBench other = new ClickBench();
        other.addMicrophone(2500, 2500);
        other.addScreen(0, -999, -1000, -999);
        Check.due("through its upper end", 0, other.arrivals(-1000, -1000, 0));
        Check.due("just above it", 1, other.arrivals(-1000, -999, 0));
    }

    private static void screensOfRows() {
        Check.says("SOUND", "a screen y = c likewise with x and y exchanged;");
        int[] ahead = {200, -1000, 3000};
        screen("just behind the line", 1, ahead, 0, 201, true);
        screen("on the line", 1, ahead, 0, 200, false);
        screen("beside it", 1, ahead, 201, 0, false);
        screen("at b", 1, new int[] {200, 100, 150}, 300, 400, true);
        screen("above b", 1, new int[] {200, 100, 149}, 300, 400, false);
        screen("at a", 1, new int[] {200, 150, 300}, 300, 400, true);
        screen("below a", 1, new int[] {200, 151, 300}, 300, 400, false);
        screen("backwards at a", 1, new int[] {-200, -150, -100}, -300, -400, true);
        screen("backwards below a", 1, new int[] {-200, -149, -100}, -300, -400, false);
        screen("a third above 1", 1, new int[] {1, 1, 2}, 4, 3, true);
        screen("a third above b", 1, new int[] {1, 0, 1}, 4, 3, false);
        screen("both on the line", 1, new int[] {0, -1000, 3000}, 500, 0, false);
    }

    /** The walls x = 100, y = 200, x = -300 and y = -400 with losses of 10, 20, 30 and 40. */
    private static ClickBench fourWalls() {
        ClickBench bench = one();
        bench.addWall(0, 100, 10);
        bench.addWall(1, 200, 20);
        bench.addWall(0, -300, 30);
        bench.addWall(1, -400, 40);
        return bench;
    }

    private static void firstOrder() {
        Check.says("SOUND", "(2) from the place mirrored by each wall (kind 1), by ascending walls;");
        Check.due("without walls", 1, one().arrivals(10, 20, 0));
        ClickBench bench = fourWalls();
        arrival(bench, 10, 20, 0, 0, 22, 64, 819);
        arrival(bench, 10, 20, 1, 1, 191, 561, 308);
        arrival(bench, 10, 20, 2, 1, 380, 1117, 166);
        arrival(bench, 10, 20, 3, 1, 610, 1794, 98);
        arrival(bench, 10, 20, 4, 1, 820, 2411, 64);
        Check.says("SOUND", "if the order is 2 (it is 1 or 2, 1 at first)");
        Check.due("at first there are no others", 5, bench.arrivals(10, 20, 0));
        arrival(bench, 10, 20, 5, NONE, NONE, NONE, NONE);
        bench.set(1, 2);
        Check.due("and 12 at order 2", 17, bench.arrivals(10, 20, 0));
        bench.set(1, 1);
        Check.due("none again", 5, bench.arrivals(10, 20, 0));
    }

    private static void secondOrder() {
        Check.says("SOUND", "from the place mirrored by a wall i, and then by a wall j with another number "
                + "(kind 2), by ascending i, and for each i by ascending j.");
        ClickBench none = one();
        none.set(1, 2);
        Check.due("without walls", 1, none.arrivals(10, 20, 0));
        none.addWall(0, 100, 10);
        Check.due("one wall has no other", 2, none.arrivals(10, 20, 0));
        none.addWall(0, 100, 10);
        Check.due("two alike have other numbers", 5, none.arrivals(10, 20, 0));
        arrival(none, 10, 20, 3, 2, 22);
        ClickBench bench = fourWalls();
        bench.set(1, 2);
        int[][] due = {{424, 1247, 136}, {790, 2323, 70}, {841, 2473, 57}, {424, 1247, 136}, {718, 2111, 67},
            {1180, 3470, 37}, {810, 2382, 68}, {718, 2111, 68}, {1022, 3005, 37}, {841, 2473, 56},
            {1220, 3588, 36}, {1022, 3005, 37}};
        for (int i = 0; i < 12; i++) {
            arrival(bench, 10, 20, 5 + i, 2, due[i][0], due[i][1], due[i][2]);
        }
        arrival(bench, 10, 20, 17, NONE, NONE, NONE, NONE);
    }

    private static void screensTakeNothingElse() {
        Check.says("SOUND", "(Screens take nothing of (2) and (3).)");
        ClickBench bench = fourWalls();
        bench.set(1, 2);
        bench.addScreen(0, 5, -1000, 3000);
        bench.addScreen(0, 101, -1000, 3000);
        bench.addScreen(1, 5, -1000, 3000);
        bench.addScreen(1, 201, -1000, 3000);
        Check.due("all but the straight one", 16, bench.arrivals(10, 20, 0));
        arrival(bench, 10, 20, 0, 1, 191, 561, 308);
        arrival(bench, 10, 20, 4, 2, 424, 1247, 136);
        arrival(bench, 10, 20, 15, 2, 1022, 3005, 37);
        arrival(bench, 10, 20, 16, NONE, NONE, NONE, NONE);
    }

    private static void lost(int s, int loss, boolean isLost) {
        ClickBench bench = one();
        bench.set(2, loss);
        bench.setS(s);
        Check.due("click from s " + s + " with a loss of " + loss, isLost ? 0 : 1, bench.click(0, 0, 0));
    }

    /** From s = 0 the number is 0, from s = 194 it is 99, from s = 1 it is 38. */
    private static void lossOfArrivals() {
        Check.says("A CLICK", "For each arrival, whatever its strength is, a number below 100 is drawn; if it "
                + "is less than the loss of arrivals (0 to 100, 0 at first), it is lost;");
        Check.due("none is lost at first", 1, one().click(0, 0, 0));
        lost(0, 0, false);
        lost(0, 1, true);
        lost(194, 99, false);
        lost(194, 100, true);
        lost(1, 38, false);
        lost(1, 39, true);
        ClickBench bench = one();
        bench.addWall(0, 0, 100);
        bench.set(4, 1000);
        bench.click(300, 400, 0);
        Check.due("a number each, also for those not heard", 377401575, bench.whole(10));
        bench.set(2, 100);
        bench.setS(1);
        bench.click(300, 400, 0);
        Check.due("a number each, also for those lost", 377401575, bench.whole(10));
    }

    private static void moved(int s, int jitter, int due) {
        ClickBench bench = one();
        bench.set(3, jitter);
        bench.setS(s);
        bench.click(0, 0, 50);
        Check.due("note from s " + s + " with a jitter of " + jitter, 50 + due, bench.note(0));
    }

    private static void jitter() {
        Check.says("A CLICK", "otherwise, if the jitter j (0 to 50, 0 at first) is greater than 0, a number "
                + "below 2 * j + 1 is drawn, and number - j is added to the time.");
        moved(0, 0, 0);
        moved(0, 1, -1);
        moved(1, 1, 0);
        moved(2, 1, 1);
        moved(44, 50, -50);
        moved(30, 50, 0);
        moved(87, 50, 50);
        ClickBench bench = one();
        bench.click(0, 0, 0);
        Check.due("without jitter one number is drawn", 1103527590, bench.whole(10));
        bench.set(3, 1);
        bench.setS(1);
        bench.click(0, 0, 0);
        Check.due("with jitter two", 377401575, bench.whole(10));
        bench.set(2, 100);
        bench.setS(1);
        bench.click(0, 0, 0);
        Check.due("what is lost is not moved", 1103527590, bench.whole(10));
        bench.set(2, 0);
        bench.set(4, 1000);
        bench.setS(1);
        bench.click(300, 400, 0);
        Check.due("what is not heard is moved all the same", 377401575, bench.whole(10));
    }

    private static void drawn(int from, int due) {
        ClickBench bench = one();
        bench.setS(from);
        bench.click(0, 0, 0);
        Check.due("s behind " + from, due, bench.whole(10));
    }

    private static void drawing() {
        Check.says("A CLICK", "To draw a number below m means: s becomes (1103515245 * s + 12345) modulo "
                + "2147483648, and the number is (s / 65536, rounded down) modulo m.");
        drawn(0, 12345);
        drawn(1, 1103527590);
        drawn(2147483646, 2087949151);
        drawn(2147483647, 1043980748);
        drawn(2088216195, 0);
        drawn(230538014, 2147483647);
        Check.says("A CLICK", "s is 1 at first.");
        Check.due("s at first", 1, new ClickBench().whole(10));
        ClickBench bench = one();
        bench.arrivals(0, 0, 0);
        bench.arrival(0, 0, 0, 0, 0);
        bench.found();
        Check.due("nothing is drawn but for clicks", 1, bench.whole(10));
    }

    /** From s = 1 the numbers below 100 are 38, 58, 13, 15, 51 and 27: two for each of three microphones. */
    private static void orderOfHearing() {
        Check.says("A CLICK", "When a click comes at a place at the time t (0 to 100000), each microphone in "
                + "ascending order hears its arrivals in the order above.");
        ClickBench bench = one();
        bench.addMicrophone(0, 0);
        bench.addMicrophone(0, 0);
        bench.addWall(0, 300, 0);
        bench.set(2, 38);
        Check.due("click", 2, bench.click(300, 400, 0));
        heard(bench, 0, 0, 166, NONE, NONE);
        heard(bench, 1, NONE, NONE, NONE, NONE);
        heard(bench, 2, 0, 166, NONE, NONE);
        bench.set(2, 58);
        bench.setS(1);
        bench.click(300, 400, 0);
        heard(bench, 0, 1, 166, 0, NONE);
        bench.setS(1);
        bench.set(2, 39);
        bench.calibrate(300, 400, 0);
        heard(bench, 0, 1, 166, 0, NONE);
        heard(bench, 1, NONE, NONE, NONE, NONE);
        heard(bench, 2, 0, 166, NONE, NONE);
        bench.set(2, 0);
        Check.due("the greatest time", 3, bench.click(300, 400, 100000));
        Check.due("the note of the last", 101470, bench.note(2));
    }

    private static void timeOfArrival() {
        Check.says("A CLICK", "The time of an arrival is t + the time that the sound takes + the clock error of "
                + "the microphone + what is drawn.");
        ClickBench bench = one();
        bench.set(3, 50);
        bench.setClock(0, -500);
        bench.setS(44);
        bench.click(0, 0, 0);
        Check.due("the least of all, below 0", -550, bench.note(0));
        bench.setClock(0, 500);
        bench.setS(87);
        bench.click(300, 400, 100000);
        Check.due("a great one", 100000 + 1470 + 500 + 50, bench.note(0));
        Check.says("A CLICK", "What it notes is the time minus its offset.");
        bench.setS(87);
        bench.calibrate(0, 0, 0);
        Check.due("the greatest offset of a straight way", 550, bench.part(0, 0, 3));
        bench.setClock(0, -500);
        bench.setS(44);
        bench.click(0, 0, 0);
        Check.due("the least note of a straight way", -1100, bench.note(0));
    }

    private static void threshold() {
        Check.says("A CLICK", "Arrivals with a strength less than the threshold (0 to 1000, 10 at first) are "
                + "not heard.");
        ClickBench bench = one();
        Check.due("1000 is heard", 1, bench.click(0, 0, 0));
        bench.set(4, 1000);
        Check.due("1000 is heard at 1000", 1, bench.click(0, 0, 0));
        Check.due("990 is not", 0, bench.click(1, 0, 0));
        bench.set(4, 990);
        Check.due("990 is heard at 990", 1, bench.click(1, 0, 0));
        bench.set(4, 991);
        Check.due("990 is not heard at 991", 0, bench.click(1, 0, 0));
        atFirst(90, 1);
        atFirst(91, 0);
        ClickBench silent = one();
        silent.addScreen(0, 100, -1000, 3000);
        silent.addWall(0, -100, 100);
        silent.set(4, 1);
        Check.due("a strength of 0 at 1", 0, silent.click(300, 400, 0));
        silent.set(4, 0);
        Check.due("a strength of 0 at 0", 1, silent.click(300, 400, 0));
        heard(silent, 0, 1, 0, 0, NONE);
    }

    /** A strength of 100 by a wall with a loss: the straight way is taken. */
    private static void atFirst(int loss, int due) {
        ClickBench bench = one();
        bench.addScreen(0, 100, -1000, 3000);
        bench.addWall(0, -350, loss);
        Check.due("strength without loss", 100 * (100 - loss) / 100, bench.arrival(200, 0, 0, 0, 3));
        Check.due("noted by the first threshold with a loss of " + loss, due, bench.click(200, 0, 0));
    }

    private static void modes() {
        Check.says("A CLICK", "Of those that are heard, the microphone notes one, by the mode: 0 (at first) the "
                + "one with the least time, 1 the strongest one, of several the one that comes first in the "
                + "order above.");
        ClickBench bench = one();
        bench.addScreen(0, 100, -1000, 3000);
        bench.addWall(0, -100, 90);
        bench.addWall(0, -200, 0);
        bench.addWall(0, -200, 0);
        bench.click(300, 400, 0);
        heard(bench, 0, 1, 13, 0, NONE);
        bench.set(5, 1);
        bench.click(300, 400, 0);
        heard(bench, 0, 1, 110, 1, NONE);
        bench.set(4, 111);
        Check.due("what is not heard is not noted", 0, bench.click(300, 400, 0));
        tiesOfTimes();
        tiesOfStrengths();
        leastTimeIsMoved();
    }

    private static void tiesOfTimes() {
        ClickBench bench = one();
        bench.addWall(0, 300, 0);
        bench.addWall(0, 300, 0);
        bench.click(300, 400, 0);
        heard(bench, 0, 0, 166, NONE, NONE);
        bench.addScreen(0, 100, -1000, 3000);
        bench.set(1, 2);
        bench.click(300, 400, 0);
        heard(bench, 0, 1, 166, 0, NONE);
    }

    private static void tiesOfStrengths() {
        ClickBench bench = one();
        bench.set(5, 1);
        bench.addWall(0, 300, 0);
        bench.addWall(0, 300, 0);
        bench.click(300, 400, 0);
        heard(bench, 0, 0, 166, NONE, NONE);
        bench.addScreen(0, 100, -1000, 3000);
        bench.set(1, 2);
        bench.click(300, 400, 0);
        heard(bench, 0, 1, 166, 0, NONE);
        ClickBench loud = one();
        loud.set(5, 1);
        loud.addScreen(0, 100, -1000, 3000);
        loud.addWall(0, -100, 50);
        loud.addWall(0, -101, 48);
        loud.click(300, 400, 0);
        heard(loud, 0, 1, 69, 1, NONE);
    }

    /** From s = 1 the numbers are 16838, 5758, 10113, 17515, 31051, 5627, 23010 and 7419. */
    private static void leastTimeIsMoved() {
        ClickBench bench = one();
        bench.set(3, 50);
        bench.addWall(0, 300, 0);
        bench.click(300, 400, 0);
        heard(bench, 0, 0, 166, NONE, NONE);
        Check.due("the earlier of both", 1470 - 49, bench.note(0));
        bench.setS(1);
        bench.set(2, 39);
        bench.click(300, 400, 0);
        heard(bench, 0, 1, 166, 0, NONE);
        Check.due("the first is lost, the number behind its own moves the other", 1470 - 37, bench.note(0));
        bench.setS(1147902781);
        bench.set(2, 0);
        bench.click(300, 400, 0);
        heard(bench, 0, 1, 166, 0, NONE);
        Check.due("7419 % 101 - 50 comes before 5627 % 101 - 50", 1470 - 4, bench.note(0));
        bench.setS(1147902781);
        bench.set(5, 1);
        bench.click(300, 400, 0);
        heard(bench, 0, 0, 166, NONE, NONE);
        Check.due("of two as strong ones not the earlier, but the first", 1470 + 22, bench.note(0));
    }

    private static void notesNothing() {
        Check.says("A CLICK", "It notes nothing if it hears none.");
        ClickBench bench = one();
        bench.addMicrophone(900, 0);
        bench.click(0, 0, 0);
        bench.set(4, 101);
        Check.due("one of two notes", 1, bench.click(0, 0, 5));
        Check.due("the near one", 5, bench.note(0));
        Check.due("the far one, which had a note", NONE, bench.note(1));
        heard(bench, 1, NONE, NONE, NONE, NONE);
        bench.set(4, 0);
        bench.addScreen(0, 100, -1000, 3000);
        Check.due("a screen takes all that comes to it", 1, bench.click(0, 0, 5));
        Check.due("nothing comes", NONE, bench.note(1));
        bench.set(2, 100);
        Check.due("all is lost", 0, bench.click(0, 0, 5));
        Check.due("also here", NONE, bench.note(0));
    }

    private static void notesStay() {
        Check.says("A CLICK", "The notes of the latest click are kept, whatever is set or added behind it.");
        ClickBench bench = one();
        bench.addScreen(0, 100, -1000, 3000);
        bench.addWall(0, -100, 90);
        bench.click(300, 400, 0);
        int[] values = {1000, 2, 100, 50, 1000, 1, 500};
        for (int what = 0; what < 7; what++) {
            bench.set(what, values[what]);
            Check.due("note behind set " + what, 1882, bench.note(0));
        }
        bench.setClock(0, 500);
        bench.setS(9);
        bench.addMicrophone(0, 0);
        bench.addWall(0, -1, 0);
        bench.addScreen(0, 50, -1000, 3000);
        Check.due("note behind what was added", 1882, bench.note(0));
        bench.remove(2, 0);
        bench.remove(1, 0);
        bench.remove(0, 1);
        Check.due("note behind what was removed", 1882, bench.note(0));
        heard(bench, 0, 1, 13, 0, NONE);
        Check.throwing("a refused click", Check.ARGUMENT, () -> bench.click(0, 0, -1));
        Check.due("note behind a refused click", 1882, bench.note(0));
        bench.click(300, 400, 0);
        Check.due("the next click empties it", NONE, bench.note(0));
    }

    private static void clickRefuses(int x, int y, int time) {
        ClickBench bench = one();
        bench.click(1, 2, 3);
        String call = "click(" + x + ", " + y + ", " + time + ")";
        Check.refused(bench, call, Check.ARGUMENT, () -> bench.click(x, y, time));
        ClickBench empty = new ClickBench();
        Check.refused(empty, call + " without microphones", Check.ARGUMENT, () -> empty.click(x, y, time));
    }

    private static void clickRanges() {
        Check.says(10, "`x`: -1000 to 3000");
        ClickBench bench = one();
        bench.set(4, 0);
        Check.due("the least x", 1, bench.click(-1000, 0, 0));
        Check.due("the greatest x", 1, bench.click(3000, 0, 0));
        for (int wrong : WRONG_PLACES) {
            clickRefuses(wrong, 0, 0);
        }
        Check.says(10, "`y`: -1000 to 3000");
        Check.due("the least y", 1, bench.click(0, -1000, 0));
        Check.due("the greatest y", 1, bench.click(0, 3000, 0));
        for (int wrong : WRONG_PLACES) {
            clickRefuses(0, wrong, 0);
        }
        Check.says(10, "`time`: 0 to 100000");
        bench.click(0, 0, 0);
        Check.due("the least time", 0, bench.note(0));
        bench.click(0, 0, 100000);
        Check.due("the greatest time", 100000, bench.note(0));
        for (int wrong : new int[] {LEAST, -1, 100001, GREATEST}) {
            clickRefuses(0, 0, wrong);
        }
        Check.says(10, "Throws `IllegalArgumentException` if an argument is out of range");
        clickRefuses(-1001, 3001, -1);
        Check.says(10, "Throws `IllegalStateException` if there is no microphone");
        ClickBench empty = new ClickBench();
        Check.refused(empty, "a new field", Check.STATE, () -> empty.click(0, 0, 0));
        bench.remove(0, 0);
        Check.refused(bench, "the last one removed", Check.STATE, () -> bench.click(0, 0, 0));
        bench.undo();
        bench.begin(2, 2);
        Check.refused(bench, "behind begin()", Check.STATE, () -> bench.click(0, 0, 0));
        Check.due("no click is counted", 0, bench.whole(5));
        Check.due("nothing was drawn", 1, empty.whole(10));
    }

    private static void clickAnswers() {
        Check.says(10, "Returns the number of microphones that noted something.");
        ClickBench bench = new ClickBench();
        for (int i = 0; i < 8; i++) {
            bench.addMicrophone(100 * i, 0);
            Check.due("all of " + (i + 1), i + 1, bench.click(0, 0, 0));
        }
        bench.set(4, 250);
        Check.due("those as near as 300", 4, bench.click(0, 0, 0));
        bench.set(4, 251);
        Check.due("those as near as 200", 3, bench.click(0, 0, 0));
        bench.set(2, 100);
        Check.due("none", 0, bench.click(0, 0, 0));
    }

    private static void calibrateRefuses(int x, int y, int time) {
        ClickBench bench = one();
        bench.setClock(0, 9);
        bench.click(1, 2, 3);
        String call = "calibrate(" + x + ", " + y + ", " + time + ")";
        Check.refused(bench, call, Check.ARGUMENT, () -> bench.calibrate(x, y, time));
        ClickBench empty = new ClickBench();
        Check.refused(empty, call + " without microphones", Check.ARGUMENT, () -> empty.calibrate(x, y, time));
    }

    private static void calibrateRanges() {
        Check.says(11, "`x`: -1000 to 3000");
        ClickBench bench = one();
        bench.setClock(0, 1);
        bench.set(4, 0);
        Check.due("the least x", 1, bench.calibrate(-1000, 0, 0));
        Check.due("the greatest x", 0, bench.calibrate(3000, 0, 0));
        for (int wrong : WRONG_PLACES) {
            calibrateRefuses(wrong, 0, 0);
        }
        Check.says(11, "`y`: -1000 to 3000");
        Check.due("the least y", 0, bench.calibrate(0, -1000, 0));
        Check.due("the greatest y", 0, bench.calibrate(0, 3000, 0));
        for (int wrong : WRONG_PLACES) {
            calibrateRefuses(0, wrong, 0);
        }
        Check.says(11, "`time`: 0 to 100000");
        bench.calibrate(0, 0, 0);
        Check.due("the least time", 0, bench.note(0));
        bench.calibrate(0, 0, 100000);
        Check.due("the greatest time", 100000, bench.note(0));
        for (int wrong : new int[] {LEAST, -1, 100001, GREATEST}) {
            calibrateRefuses(0, 0, wrong);
        }
        Check.says(11, "Throws `IllegalArgumentException` if an argument is out of range");
        calibrateRefuses(3001, -1001, 100001);
        Check.says(11, "Throws `IllegalStateException` if there is no microphone");
        ClickBench empty = new ClickBench();
        Check.refused(empty, "a new field", Check.STATE, () -> empty.calibrate(0, 0, 0));
        bench.remove(0, 0);
        Check.refused(bench, "the last one removed", Check.STATE, () -> bench.calibrate(0, 0, 0));
    }

    private static final String CALIBRATE = "Has a click at a known place and time: it is noted as by click() "
            + "with all offsets 0; then the offset of each microphone that has noted something becomes its note "
            + "minus the time of the click minus the time that the sound takes on the straight way (whatever "
            + "screens there are), and its note becomes less by this offset; the offsets of the others become 0.";

    private static void calibrateOffsets() {
        Check.says(11, CALIBRATE);
        ClickBench bench = one();
        bench.setClock(0, 500);
        bench.calibrate(300, 400, 7);
        Check.due("the greatest error", 500, bench.part(0, 0, 3));
        Check.due("its note", 1477, bench.note(0));
        bench.setClock(0, -500);
        bench.calibrate(300, 400, 7);
        Check.due("the least error: not by the old offset", -500, bench.part(0, 0, 3));
        Check.due("its note", 1477, bench.note(0));
        bench.set(3, 50);
        bench.setS(1);
        bench.calibrate(300, 400, 7);
        Check.due("the jitter counts", -549, bench.part(0, 0, 3));
        Check.due("its note", 1477, bench.note(0));
        bench.set(3, 0);
        bench.addScreen(0, 100, -1000, 3000);
        bench.addWall(0, -100, 0);
        bench.calibrate(300, 400, 7);
        Check.due("a screen: the way by the wall is heard", -500 + 1882 - 1470, bench.part(0, 0, 3));
        Check.due("its note", 1477, bench.note(0));
        heard(bench, 0, 1, 135, 0, NONE);
        Check.due("they are clicks", 4, bench.whole(5));
        bench.addMicrophone(300, 400);
        bench.set(4, 999);
        bench.calibrate(300, 400, 0);
        Check.due("who hears nothing", 0, bench.part(0, 0, 3));
        Check.due("has no note", NONE, bench.note(0));
        Check.due("the other one has", 0, bench.note(1));
        Check.due("and no offset", 0, bench.part(0, 1, 3));
    }

    private static void calibrateAnswers() {
        Check.says(11, "Returns the number of microphones whose offset is another one than before the call.");
        ClickBench bench = new ClickBench();
        for (int i = 0; i < 8; i++) {
            bench.addMicrophone(0, 0);
        }
        Check.due("none", 0, bench.calibrate(0, 0, 0));
        bench.setClock(7, 1);
        Check.due("one", 1, bench.calibrate(0, 0, 0));
        Check.due("the same again", 0, bench.calibrate(5, 6, 7));
        for (int i = 0; i < 8; i++) {
            bench.setClock(i, -5);
        }
        Check.due("all", 8, bench.calibrate(0, 0, 0));
        bench.setClock(3, 0);
        bench.set(2, 100);
        Check.due("all lose it", 8, bench.calibrate(0, 0, 0));
        Check.due("nothing is left to lose", 0, bench.calibrate(0, 0, 0));
    }

    private static void notes() {
        Check.says(12, "Returns the note; NONE if it noted nothing.");
        ClickBench bench = one();
        Check.due("no click at all", -1000000000, bench.note(0));
        bench.click(0, 0, 0);
        Check.due("a note of 0", 0, bench.note(0));
        bench.setClock(0, -1);
        bench.click(0, 0, 0);
        Check.due("a note below 0", -1, bench.note(0));
        bench.set(2, 100);
        bench.click(0, 0, 0);
        Check.due("all lost", -1000000000, bench.note(0));
        Check.says(12, "Throws `IndexOutOfBoundsException` if there is no such microphone");
        for (int wrong : WRONG_MICROPHONES) {
            Check.refused(bench, "note(" + wrong + ")", Check.INDEX, () -> bench.note(wrong));
        }
        bench.remove(0, 0);
        Check.refused(bench, "note(0) of none", Check.INDEX, () -> bench.note(0));
    }

    private static void heards() {
        Check.says(13, "Returns that value; NONE if it noted nothing.");
        ClickBench bench = one();
        heard(bench, 0, NONE, NONE, NONE, NONE);
        bench.click(0, 0, 0);
        heard(bench, 0, 0, 1000, NONE, NONE);
        Check.says(13, "`what`: 0 kind, 1 strength, 2 wall that mirrored it first, 3 wall that mirrored it then "
                + "(2, 3: the numbers that they had at the click; NONE if there is none)");
        bench.addScreen(0, 100, -1000, 3000);
        for (int i = 0; i < 4; i++) {
            bench.addWall(0, i < 2 ? 3000 : -100, i == 3 ? 0 : 99);
        }
        bench.set(5, 1);
        bench.click(300, 400, 0);
        heard(bench, 0, 1, 135, 3, NONE);
        bench.remove(1, 0);
        bench.remove(1, 2);
        heard(bench, 0, 1, 135, 3, NONE);
        wallsOfBothKinds();
        Check.says(13, "Throws `IndexOutOfBoundsException` if there is no such microphone");
        for (int wrong : WRONG_MICROPHONES) {
            Check.refused(bench, "heard(" + wrong + ", 0)", Check.INDEX, () -> bench.heard(wrong, 0));
            Check.refused(bench, "both wrong", Check.INDEX, () -> bench.heard(wrong, 4));
        }
        Check.says(13, "Throws `IllegalArgumentException` if what is out of range");
        ClickBench silent = one();
        for (int wrong : new int[] {LEAST, -1, 4, 5, GREATEST}) {
            Check.refused(bench, "heard(0, " + wrong + ")", Check.ARGUMENT, () -> bench.heard(0, wrong));
            Check.refused(silent, "without a note", Check.ARGUMENT, () -> silent.heard(0, wrong));
        }
    }

    /** Two walls at one line mirror a place back to itself, as near as it is. */
    private static void wallsOfBothKinds() {
        ClickBench bench = one();
        bench.addScreen(0, 100, -1000, 3000);
        bench.addWall(1, 3000, 0);
        bench.addWall(1, 3000, 0);
        bench.addWall(0, 2000, 50);
        bench.addWall(0, 2000, 0);
        bench.set(1, 2);
        bench.click(300, 400, 0);
        heard(bench, 0, 2, 166, 0, 1);
        bench.remove(1, 0);
        heard(bench, 0, 2, 166, 0, 1);
        bench.click(300, 400, 0);
        heard(bench, 0, 2, 83, 1, 2);
    }

    private static void arrivalCounts() {
        Check.says(14, "Returns the number of arrivals of a click at a place at a microphone, whatever the "
                + "threshold is.");
        ClickBench bench = one();
        bench.set(4, 1000);
        Check.due("the least of them", 1, bench.arrivals(3000, 3000, 0));
        bench.addScreen(0, 1, -1000, 3000);
        Check.due("none", 0, bench.arrivals(3000, 3000, 0));
        for (int i = 0; i < 4; i++) {
            bench.addWall(0, 3000, 100);
        }
        bench.set(1, 2);
        Check.due("16 behind a screen", 16, bench.arrivals(3000, 3000, 0));
        Check.due("the most of them", 17, bench.arrivals(-1000, -1000, 0));
        Check.says(14, "`x`: -1000 to 3000");
        for (int wrong : WRONG_PLACES) {
            Check.refused(bench, "x of " + wrong, Check.ARGUMENT, () -> bench.arrivals(wrong, 0, 0));
        }
        Check.says(14, "`y`: -1000 to 3000");
        for (int wrong : WRONG_PLACES) {
            Check.refused(bench, "y of " + wrong, Check.ARGUMENT, () -> bench.arrivals(0, wrong, 0));
        }
        Check.says(14, "Throws `IllegalArgumentException` if x or y is out of range");
        Check.refused(bench, "both", Check.ARGUMENT, () -> bench.arrivals(-1001, 3001, 0));
        Check.says(14, "Throws `IndexOutOfBoundsException` if there is no such microphone");
        for (int wrong : WRONG_MICROPHONES) {
            Check.refused(bench, "microphone " + wrong, Check.INDEX, () -> bench.arrivals(0, 0, wrong));
            Check.refused(bench, "all wrong", Check.INDEX, () -> bench.arrivals(-1001, 3001, wrong));
        }
        ClickBench empty = new ClickBench();
        Check.refused(empty, "no microphone", Check.INDEX, () -> empty.arrivals(0, 0, 0));
    }

    private static void arrivalValues() {
        Check.says(15, "Returns that value; NONE if there are not so many.");
        ClickBench bench = one();
        arrival(bench, 3000, -1000, 0, 0, 3162, 9300, 30);
        arrival(bench, 3000, -1000, 1, NONE, NONE, NONE, NONE);
        arrival(bench, 3000, -1000, GREATEST, NONE, NONE, NONE, NONE);
        bench.addScreen(0, 1, -1000, 3000);
        arrival(bench, 3000, -1000, 0, NONE, NONE, NONE, NONE);
        bench.addWall(0, 0, 0);
        arrival(bench, -1000, 3000, 0, 0, 3162, 9300, 30);
        arrival(bench, -1000, 3000, 1, 1, 3162, 9300, 30);
        arrival(bench, -1000, 3000, 2, NONE, NONE, NONE, NONE);
        Check.says(15, "`x`: -1000 to 3000");
        arrival(bench, 3000, 0, 0, 1, 3000);
        arrival(bench, -1000, 0, 1, 1, 1000);
        for (int wrong : WRONG_PLACES) {
            Check.refused(bench, "x of " + wrong, Check.ARGUMENT, () -> bench.arrival(wrong, 0, 0, 0, 0));
        }
        Check.says(15, "`y`: -1000 to 3000");
        arrival(bench, 0, 3000, 1, 1, 3000);
        arrival(bench, 0, -1000, 1, 1, 1000);
        for (int wrong : WRONG_PLACES) {
            Check.refused(bench, "y of " + wrong, Check.ARGUMENT, () -> bench.arrival(0, wrong, 0, 0, 0));
        }
        Check.says(15, "`index`: 0 or more");
        for (int wrong : new int[] {LEAST, -2, -1}) {
            Check.refused(bench, "index " + wrong, Check.ARGUMENT, () -> bench.arrival(0, 0, 0, wrong, 0));
        }
        Check.says(15, "`what`: 0 kind, 1 way, 2 time that the sound takes, 3 strength");
        for (int wrong : new int[] {LEAST, -1, 4, 5, GREATEST}) {
            Check.refused(bench, "what " + wrong, Check.ARGUMENT, () -> bench.arrival(0, 0, 0, 0, wrong));
            Check.refused(bench, "not so many", Check.ARGUMENT, () -> bench.arrival(0, 0, 0, 9, wrong));
        }
        Check.says(15, "Throws `IllegalArgumentException` if x, y or what is out of range, or index is negative");
        for (int wrong : WRONG_PLACES) {
            Check.refused(bench, "not so many, and x", Check.ARGUMENT, () -> bench.arrival(wrong, 0, 0, 99, 0));
            Check.refused(bench, "not so many, and y", Check.ARGUMENT, () -> bench.arrival(0, wrong, 0, 99, 0));
        }
        Check.says(15, "Throws `IndexOutOfBoundsException` if there is no such microphone");
        for (int wrong : WRONG_MICROPHONES) {
            Check.refused(bench, "microphone " + wrong, Check.INDEX, () -> bench.arrival(0, 0, wrong, 0, 0));
            Check.refused(bench, "not so many", Check.INDEX, () -> bench.arrival(0, 0, wrong, 99, 0));
            Check.refused(bench, "all wrong", Check.INDEX, () -> bench.arrival(-1001, 3001, wrong, -1, 4));
        }
    }
}
