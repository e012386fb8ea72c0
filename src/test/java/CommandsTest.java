/** Promises 27 to 32: the command text, its faults and runs, undo and digest. */
public final class CommandsTest {
    private static final int FINE = -1;

    public static void main(String[] args) {
        promises27And28();
        promise29();
        faults();
        numbers();
        eachCommand();
        promise30();
        promise31();
        promise32();
        Check.finish();
    }

    private static void promises27And28() {
        ClickBench bench = new ClickBench();
        Check.due("an empty text", 0, bench.clearCommands());
        for (int i = 1; i <= 150; i++) {
            Check.due("type", i, bench.type(i % 128));
        }
        Check.refused(bench, "a byte too many", Check.STATE, () -> bench.type(0));
        Check.refused(bench, "a byte too many out of range", Check.ARGUMENT, () -> bench.type(128));
        Check.due("clear", 150, bench.clearCommands());
        Check.due("clear again", 0, bench.clearCommands());
        Check.refused(bench, "type(128)", Check.ARGUMENT, () -> bench.type(128));
        Check.refused(bench, "type(-1)", Check.ARGUMENT, () -> bench.type(-1));
        Check.due("type(0)", 1, bench.type(0));
        Check.due("type(127)", 2, bench.type(127));
        Check.throwing("typing and clearing save no state", Check.STATE, bench::undo);
    }

    private static void promise29() {
        ClickBench bench = new ClickBench();
        Check.due("run", 3, Check.run(bench, "mic 0 0;mic 100 0; click 50 50 7 ;"));
        Check.due("microphones", 2, bench.whole(2));
        Check.due("clicks", 1, bench.whole(5));
        Check.due("the text stays and runs again", 3, bench.runCommands());
        Check.due("microphones", 4, bench.whole(2));
        Check.due("each run has saved one state", 1, bench.undo());
        Check.due("the state before it", 2, bench.whole(2));
        Check.due("the text is not undone", 34, bench.clearCommands());
        Check.due("the state before the first run", 0, bench.undo());
        Check.due("no microphones", 0, bench.whole(2));
        Check.due("no commands: a run all the same", 0, bench.runCommands());
        Check.due("spaces alone", 0, Check.run(bench, "   "));
        Check.due("which saves states", 1, bench.undo());
        Check.due("a fault", -10 - 8, Check.run(bench, "mic 0 0;mick 0 0;"));
        Check.due("nothing is done", 0, bench.whole(2));
        Check.due("and nothing saved", 0, bench.undo());
        Check.throwing("really nothing", Check.STATE, bench::undo);
        Check.due("those before the stop stay done", 1, Check.run(bench, "mic 9 9;mic 2501 0;mic 1 1;"));
        Check.due("one microphone", 1, bench.whole(2));
        bench.undo();
        Check.due("undo of a run that stopped", 0, bench.whole(2));
        manyCommands();
    }

    private static void manyCommands() {
        ClickBench bench = new ClickBench();
        StringBuilder text = new StringBuilder();
        for (int i = 0; i < 18; i++) {
            text.append("set 6 ").append(i % 10).append(';');
        }
        Check.due("18 commands in 144 bytes", 18, Check.run(bench, text.toString()));
        Check.due("the last of them holds", 7, bench.part(3, 6, 0));
        Check.type(bench, "set 1 ");
        Check.due("a full text that ends too soon", -160, bench.runCommands());
    }

    private static void fault(String text, int due) {
        ClickBench bench = new ClickBench();
        int got = Check.run(bench, text);
        Check.due("fault of \"" + text + "\"", due, got <= -10 ? -10 - got : FINE);
    }

    private static void faults() {
        String[] fine = {"", " ", "mic 1 2;", " mic  1   2 ;  ", "mic 00001 00002;set 00000 00340;",
            "click 99999 99999 99999;", "mic 1 2;mic 1 2;", "field 1 1;",
            "wall 2 2 2;", "screen 1 2 3 4;", "known 1 2 3;", "set 9 9;"};
        for (String text : fine) {
            fault(text, FINE);
        }
        fault("mic", 3);
        fault("mic ", 4);
        fault("mic 1", 5);
        fault("mic 1 ", 6);
        fault("mic 1 2", 7);
        fault("mic 1 2 ", 8);
        fault("mi", 0);
        fault("  mi", 2);
        fault("mi 1 2;", 0);
        fault("nic 1 2;", 0);
        fault("wald 1 2 3;", 0);
        fault("micc 1 2;", 0);
        fault("mic 1 2; c", 9);
        fault("mic 1 2; clicks 1", 9);
        fault("mic 1 2;click", 13);
        fault("Mic 1 2;", 0);
        fault("mIc 1 2;", 0);
        fault("micC 1 2;", 3);
        fault("mic;", 3);
        fault("mic1 2;", 3);
        fault("mic\t1 2;", 3);
        fault("mic\0", 3);
        fault("mic ;", 4);
        fault("mic 1;", 5);
        fault("mic 1 ;", 6);
        fault("mic 1 2 3;", 8);
        fault("mic 1 2 x;", 8);
        fault("mic 1x 2;", 5);
        fault("mic 1 2x;", 7);
        fault("mic -1 2;", 4);
        fault("mic +1 2;", 4);
        fault("mic 1, 2;", 5);
        fault("mic 123456 2;", 9);
        fault("mic 000001 2;", 9);
        fault("mic 1 123456;", 11);
        fault("mic 1 2;;", 8);
        fault(";", 0);
        fault(" ;", 1);
        fault("7", 0);
        fault("{", 0);
        fault("`", 0);
        fault("mic 1 /", 6);
        fault("mic 1 :", 6);
        fault("screen 0 1 2 3 4;", 15);
        fault("screen 0 1 2;", 12);
        fault("field 2 2;foo!", 10);
    }

    private static void numbers() {
        ClickBench bench = new ClickBench();
        Check.due("zeros in front", 2, Check.run(bench, "mic 02500 00007;set 0 00999;"));
        Check.due("x", 2500, bench.part(0, 0, 0));
        Check.due("y", 7, bench.part(0, 0, 1));
        Check.due("speed", 999, bench.part(3, 0, 0));
        Check.due("five digits", 1, Check.run(bench, "click 2500 7 98765;"));
        Check.due("its time", 98765, bench.note(0));
    }

    private static void eachCommand() {
        ClickBench typed = new ClickBench();
        ClickBench called = new ClickBench();
        Check.due("all commands", 4, Check.run(typed, "field 5 4;mic 1 2;mic 300 20;wall 1 7 30;"));
        String others = "screen 0 11 12 13;set 1 2;click 40 50 6;known 70 80 9;click 3 2 1;";
        Check.due("all commands", 5, Check.run(typed, others));
        typed.clearCommands();
        called.begin(5, 4);
        called.addMicrophone(1, 2);
        called.addMicrophone(300, 20);
        called.addWall(1, 7, 30);
        called.addScreen(0, 11, 12, 13);
        called.set(1, 2);
        called.click(40, 50, 6);
        called.calibrate(70, 80, 9);
        called.click(3, 2, 1);
        typed.set(3, 1);
        typed.set(3, 2);
        called.set(3, 2);
        Check.due("as by calls", called.digest(), typed.digest());
    }

    private static void stop(String text, int done, int stop) {
        ClickBench bench = new ClickBench();
        Check.due("run of " + text, done, Check.run(bench, text));
        Check.due("stop of " + text, stop, bench.stop());
        Check.due("a run that meets none", 0, Check.run(bench, " "));
        Check.due("has none", 0, bench.stop());
    }

    private static void promise30() {
        stop("mic 0 0;", 1, 0);
        stop("click 0 0 0;", 0, 3);
        stop("known 0 0 0;", 0, 3);
        stop("click 3001 0 0;", 0, 2);
        stop("mic 1 1;known 0 3001 0;", 1, 2);
        stop("field 1 2;", 0, 2);
        stop("mic 1 2501;", 0, 2);
        stop("wall 2 0 0;", 0, 2);
        stop("screen 0 0 5 5;", 0, 2);
        stop("set 7 0;", 0, 2);
        stop("set 0 99;mic 1 1;", 0, 2);
        stop("mic 1 1;mic 1 1;mic 1 1;mic 1 1;mic 1 1;mic 1 1;mic 1 1;mic 1 1;mic 1 1;mic 1 1;", 8, 3);
        stop("wall 0 1 1;wall 0 1 1;wall 0 1 1;wall 0 1 1;wall 0 1 1;", 4, 3);
        stop("screen 0 1 1 2;screen 0 1 1 2;screen 0 1 1 2;screen 0 1 1 2;screen 0 1 1 2;", 4, 3);
        ClickBench bench = new ClickBench();
        Check.due("no run", 0, bench.stop());
        Check.run(bench, "click 0 0 0;");
        Check.run(bench, "oops");
        Check.due("a fault leaves the stop", 3, bench.stop());
        bench.undo();
        Check.due("undo leaves the stop", 3, bench.stop());
    }

    private static void promise31() {
        ClickBench bench = new ClickBench();
        long[] digests = new long[6];
        for (int i = 0; i < 6; i++) {
            bench.addMicrophone(100 * i, 0);
            digests[i] = stateOf(bench);
        }
        for (int left = 3; left >= 0; left--) {
            Check.due("undo", left, bench.undo());
            Check.due("the state " + left, digests[left + 1], stateOf(bench));
        }
        Check.refused(bench, "undo of an empty stack", Check.STATE, bench::undo);
        bench.set(2, 30);
        bench.set(3, 9);
        bench.click(10, 20, 30);
        long before = stateOf(bench);
        bench.calibrate(200, 300, 4);
        Check.due("undo of a calibration", 3, bench.undo());
        Check.due("brings back notes, offsets and s", before, stateOf(bench));
        bench.begin(3, 3);
        bench.undo();
        Check.due("undo of a begin", before, stateOf(bench));
        Check.due("what is asked is not saved", 2, bench.undo());
    }

    /** The digest as if the stack and the text were empty. */
    private static long stateOf(ClickBench bench) {
        return fold(bench, 0, 0);
    }

    /** The digest by what the other methods answer. */
    private static long fold(ClickBench bench, int states, int length) {
        long h = 18879;
        h = 31 * h + states;
        h = 31 * h + length;
        h = 31 * h + bench.stop();
        for (int what = 0; what <= 10; what++) {
            h = 31 * h + bench.whole(what);
        }
        for (int m = 0; m < bench.whole(2); m++) {
            for (int what = 0; what <= 3; what++) {
                h = 31 * h + bench.part(0, m, what);
            }
            h = 31 * h + bench.note(m);
            for (int what = 0; what <= 3; what++) {
                h = 31 * h + bench.heard(m, what);
            }
            h = 31 * h + bench.blame(m);
        }
        for (int kind = 1; kind <= 2; kind++) {
            for (int i = 0; i < bench.whole(2 + kind); i++) {
                for (int what = 0; what < 2 + kind; what++) {
                    h = 31 * h + bench.part(kind, i, what);
                }
            }
        }
        for (int setting = 0; setting <= 6; setting++) {
            h = 31 * h + bench.part(3, setting, 0);
        }
        h = 31 * h + bench.found();
        h = 31 * h + bench.suspect();
        for (int cell = 0; cell < bench.whole(0) * bench.whole(1); cell++) {
            h = 31 * h + bench.votes(cell);
            h = 31 * h + bench.error(cell);
        }
        return h;
    }

    private static void promise32() {
        ClickBench empty = new ClickBench();
        Check.due("digest of a new bench", fold(empty, 0, 0), empty.digest());
        ClickBench bench = new ClickBench();
        bench.begin(4, 3);
        bench.addMicrophone(-5, 6);
        bench.addMicrophone(307, 8);
        bench.addMicrophone(9, 310);
        bench.setClock(1, 44);
        bench.addWall(0, -50, 7);
        bench.addWall(1, 600, 3);
        bench.addScreen(0, 100, 0, 80);
        bench.addScreen(1, 90, -10, 80);
        bench.set(1, 2);
        bench.set(3, 20);
        bench.calibrate(30, 40, 50);
        bench.click(130, 140, 150);
        Check.run(bench, "set 6 30;click 70 20 90;mic 9999 0;");
        long digest = bench.digest();
        Check.due("digest is the same again", digest, bench.digest());
        Check.due("digest", fold(bench, 4, 35), digest);
        bench.type(1);
        Check.due("the text's length counts", fold(bench, 4, 36), bench.digest());
        bench.undo();
        Check.due("the states on the stack count", fold(bench, 3, 36), bench.digest());
    }
}
