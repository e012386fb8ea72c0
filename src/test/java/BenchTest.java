/** Promises 1 to 9: a new object, and what is set up on the bench. */
public final class BenchTest {
    public static void main(String[] args) {
        promise1();
        promise2();
        promise3();
        promise4();
        promise5();
        promise6();
        promise7();
        promise8();
        promise9();
        Check.finish();
    }

    private static void wholes(String when, ClickBench bench, int... due) {
        for (int what = 0; what < due.length; what++) {
            Check.due(when + ": whole(" + what + ")", due[what], bench.whole(what));
        }
    }

    private static void parts(String when, ClickBench bench, int kind, int index, int... due) {
        for (int what = 0; what < due.length; what++) {
            String call = when + ": part(" + kind + ", " + index + ", " + what + ")";
            Check.due(call, due[what], bench.part(kind, index, what));
        }
    }

    private static void settings(String when, ClickBench bench, int... due) {
        for (int what = 0; what < due.length; what++) {
            Check.due(when + ": setting " + what, due[what], bench.part(3, what, 0));
        }
    }

    private static void promise1() {
        ClickBench bench = new ClickBench();
        wholes("new", bench, 10, 8, 0, 0, 0, 0, 0, 0, 0, 0, 1);
        settings("new", bench, 340, 1, 0, 0, 10, 0, 20);
        Check.due("new: stop", 0, bench.stop());
        Check.due("new: found", ClickBench.NONE, bench.found());
        Check.due("new: suspect", ClickBench.NONE, bench.suspect());
        Check.due("new: length of the text", 0, bench.clearCommands());
        Check.throwing("new: undo", Check.STATE, bench::undo);
    }

    private static void promise2() {
        ClickBench bench = new ClickBench();
        bench.addMicrophone(1, 2);
        bench.addWall(0, 5, 6);
        bench.addScreen(1, 5, 6, 7);
        bench.set(0, 500);
        bench.set(4, 0);
        bench.click(0, 0, 0);
        bench.calibrate(0, 0, 0);
        bench.setS(77);
        Check.due("begin answers the clicks before", 2, bench.begin(2, 20));
        wholes("after begin", bench, 2, 20, 0, 0, 0, 0, 0, 0, 0, 0, 77);
        settings("after begin", bench, 500, 1, 0, 0, 0, 0, 20);
        Check.due("begin again", 0, bench.begin(20, 2));
        wholes("after begin again", bench, 20, 2);
        Check.due("begin is undoable", 3, bench.undo());
        wholes("after its undo", bench, 2, 20);
        bench.undo();
        wholes("after the undo of the first begin", bench, 10, 8, 1, 1, 1, 2, 1, 0, 0, 0, 77);
        int[][] wrong = {{1, 2}, {2, 1}, {21, 2}, {2, 21}, {-1, -1}, {0, 8}, {Integer.MAX_VALUE, 8}};
        for (int[] w : wrong) {
            Check.refused(bench, "begin(" + w[0] + ", " + w[1] + ")", Check.ARGUMENT, () -> bench.begin(w[0], w[1]));
        }
    }

    private static void promise3() {
        ClickBench bench = new ClickBench();
        Check.due("first microphone", 0, bench.addMicrophone(-500, 2500));
        Check.due("second microphone", 1, bench.addMicrophone(2500, -500));
        parts("first", bench, 0, 0, -500, 2500, 0, 0);
        parts("second", bench, 0, 1, 2500, -500, 0, 0);
        bench.click(0, 0, 0);
        bench.addMicrophone(0, 0);
        Check.due("a new microphone has noted nothing", ClickBench.NONE, bench.note(2));
        Check.due("a new microphone has heard nothing", ClickBench.NONE, bench.heard(2, 1));
        Check.due("the others keep their notes", 2, bench.whole(6));
        int[][] wrong = {{-501, 0}, {0, -501}, {2501, 0}, {0, 2501}, {Integer.MIN_VALUE, 0}};
        for (int[] w : wrong) {
            Check.refused(bench, "addMicrophone(" + w[0] + ", " + w[1] + ")", Check.ARGUMENT,
                    () -> bench.addMicrophone(w[0], w[1]));
        }
        for (int i = 3; i < 8; i++) {
            Check.due("microphone " + i, i, bench.addMicrophone(i, i));
        }
        Check.refused(bench, "a ninth microphone", Check.STATE, () -> bench.addMicrophone(0, 0));
        Check.refused(bench, "a ninth microphone out of range", Check.ARGUMENT, () -> bench.addMicrophone(0, 9999));
        bench.undo();
        Check.due("undo takes a microphone away", 7, bench.whole(2));
        Check.due("and it can be added again", 7, bench.addMicrophone(0, 0));
    }

    private static void promise4() {
        ClickBench bench = new ClickBench();
        bench.addMicrophone(0, 0);
        bench.addMicrophone(1, 1);
        Check.due("setClock", 0, bench.setClock(1, -500));
        Check.due("setClock again", -500, bench.setClock(1, 500));
        parts("clock", bench, 0, 0, 0, 0, 0, 0);
        parts("clock", bench, 0, 1, 1, 1, 500, 0);
        bench.undo();
        parts("clock undone", bench, 0, 1, 1, 1, -500, 0);
        Check.refused(bench, "setClock(0, 501)", Check.ARGUMENT, () -> bench.setClock(0, 501));
        Check.refused(bench, "setClock(0, -501)", Check.ARGUMENT, () -> bench.setClock(0, -501));
        Check.refused(bench, "setClock(2, 0)", Check.INDEX, () -> bench.setClock(2, 0));
        Check.refused(bench, "setClock(-1, 501)", Check.INDEX, () -> bench.setClock(-1, 501));
    }

    private static void promise5() {
        ClickBench bench = new ClickBench();
        Check.due("first wall", 0, bench.addWall(0, -1000, 0));
        Check.due("second wall", 1, bench.addWall(1, 3000, 100));
        parts("first wall", bench, 1, 0, 0, -1000, 0);
        parts("second wall", bench, 1, 1, 1, 3000, 100);
        int[][] wrong = {{2, 0, 0}, {-1, 0, 0}, {0, -1001, 0}, {0, 3001, 0}, {1, 0, -1}, {1, 0, 101}};
        for (int[] w : wrong) {
            String call = "addWall(" + w[0] + ", " + w[1] + ", " + w[2] + ")";
            Check.refused(bench, call, Check.ARGUMENT, () -> bench.addWall(w[0], w[1], w[2]));
        }
        bench.addWall(0, 1, 1);
        Check.due("fourth wall", 3, bench.addWall(0, 1, 1));
        Check.refused(bench, "a fifth wall", Check.STATE, () -> bench.addWall(0, 1, 1));
        Check.refused(bench, "a fifth wall out of range", Check.ARGUMENT, () -> bench.addWall(0, 1, 101));
        bench.undo();
        Check.due("undo takes a wall away", 3, bench.whole(3));
    }

    private static void promise6() {
        ClickBench bench = new ClickBench();
        Check.due("first screen", 0, bench.addScreen(0, -1000, -1000, 3000));
        Check.due("second screen", 1, bench.addScreen(1, 3000, 2999, 3000));
        parts("first screen", bench, 2, 0, 0, -1000, -1000, 3000);
        parts("second screen", bench, 2, 1, 1, 3000, 2999, 3000);
        int[][] wrong = {{2, 0, 0, 1}, {-1, 0, 0, 1}, {0, -1001, 0, 1}, {0, 3001, 0, 1}, {0, 0, -1001, 1},
            {0, 0, 0, 3001}, {0, 0, 5, 5}, {0, 0, 6, 5}, {0, 0, 3000, 3001}};
        for (int[] w : wrong) {
            String call = "addScreen(" + w[0] + ", " + w[1] + ", " + w[2] + ", " + w[3] + ")";
            Check.refused(bench, call, Check.ARGUMENT, () -> bench.addScreen(w[0], w[1], w[2], w[3]));
        }
        bench.addScreen(0, 1, 1, 2);
        Check.due("fourth screen", 3, bench.addScreen(0, 1, 1, 2));
        Check.refused(bench, "a fifth screen", Check.STATE, () -> bench.addScreen(0, 1, 1, 2));
        Check.refused(bench, "a fifth screen out of range", Check.ARGUMENT, () -> bench.addScreen(0, 1, 2, 2));
        bench.undo();
        Check.due("undo takes a screen away", 3, bench.whole(4));
    }

    private static void promise7() {
        ClickBench bench = new ClickBench();
        for (int i = 0; i < 3; i++) {
            bench.addMicrophone(100 * i, 0);
            bench.addWall(0, -100 * i, 10 * i);
            bench.addScreen(1, 500 + i, 0, 10 + i);
        }
        bench.setClock(2, 7);
        bench.click(0, 100, 0);
        int third = bench.note(2);
        Check.due("remove a microphone", 2, bench.remove(0, 1));
        parts("the one behind moves", bench, 0, 1, 200, 0, 7, 0);
        Check.due("with its note", third, bench.note(1));
        Check.due("what noted is less", 2, bench.whole(6));
        Check.throwing("the last number is free", Check.INDEX, () -> bench.note(2));
        Check.due("remove a wall", 2, bench.remove(1, 0));
        parts("wall 0", bench, 1, 0, 0, -100, 10);
        parts("wall 1", bench, 1, 1, 0, -200, 20);
        Check.due("remove a screen", 2, bench.remove(2, 2));
        parts("screen 1", bench, 2, 1, 1, 501, 0, 11);
        bench.undo();
        parts("screen 2 is back", bench, 2, 2, 1, 502, 0, 12);
        bench.addMicrophone(9, 9);
        Check.due("a new one in the place of a removed one has no note", ClickBench.NONE, bench.note(2));
        Check.refused(bench, "remove(3, 0)", Check.ARGUMENT, () -> bench.remove(3, 0));
        Check.refused(bench, "remove(-1, 9)", Check.ARGUMENT, () -> bench.remove(-1, 9));
        Check.refused(bench, "remove(0, 3)", Check.INDEX, () -> bench.remove(0, 3));
        Check.refused(bench, "remove(1, 2)", Check.INDEX, () -> bench.remove(1, 2));
        Check.refused(bench, "remove(2, -1)", Check.INDEX, () -> bench.remove(2, -1));
    }

    private static void promise8() {
        int[][] ranges = {{100, 1000, 340}, {1, 2, 1}, {0, 100, 0}, {0, 50, 0}, {0, 1000, 10}, {0, 1, 0}, {0, 500, 20}};
        for (int what = 0; what < ranges.length; what++) {
            ClickBench bench = new ClickBench();
            int setting = what;
            int least = ranges[what][0];
            int most = ranges[what][1];
            Check.due("set " + what + " to the least", ranges[what][2], bench.set(what, least));
            Check.due("set " + what + " to the greatest", least, bench.set(what, most));
            Check.due("part of setting " + what, most, bench.part(3, what, 0));
            Check.refused(bench, "set " + what + " too low", Check.ARGUMENT, () -> bench.set(setting, least - 1));
            Check.refused(bench, "set " + what + " too high", Check.ARGUMENT, () -> bench.set(setting, most + 1));
            bench.undo();
            Check.due("undone setting " + what, least, bench.part(3, what, 0));
            Check.due("the same again is saved too", least, bench.set(what, least));
            Check.due("and undone", 1, bench.undo());
        }
        ClickBench bench = new ClickBench();
        Check.refused(bench, "set(7, 0)", Check.ARGUMENT, () -> bench.set(7, 0));
        Check.refused(bench, "set(-1, 0)", Check.ARGUMENT, () -> bench.set(-1, 0));
    }

    private static void promise9() {
        ClickBench bench = new ClickBench();
        Check.due("setS", 1, bench.setS(2147483647));
        Check.due("setS again", 2147483647, bench.setS(0));
        Check.due("s", 0, bench.whole(10));
        bench.undo();
        Check.due("s undone", 2147483647, bench.whole(10));
        Check.refused(bench, "setS(-1)", Check.ARGUMENT, () -> bench.setS(-1));
        Check.refused(bench, "setS(least)", Check.ARGUMENT, () -> bench.setS(Integer.MIN_VALUE));
    }
}
