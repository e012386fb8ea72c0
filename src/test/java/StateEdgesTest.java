import java.util.ArrayDeque;
import java.util.Deque;
import java.util.function.Consumer;

/** Undo, exceptions and promises 31 and 32: a test for each sentence that names a boundary case, behind its words. */
public final class StateEdgesTest {
    private static final int NONE = ClickBench.NONE;

    private static final String UNDOABLE = "Every method that is marked \"undoable\" saves the whole state but "
            + "the command text and the stop on an undo stack when it ends normally, also if it changes nothing.";
    private static final String KEPT = "The stack keeps the latest 4 saved states and drops older ones.";
    private static final String LISTED_FIRST = "If several exceptions of a method apply, the one that is listed "
            + "first is thrown.";

    public static void main(String[] args) {
        undoableCalls();
        undoableWithoutChange();
        otherCallsSaveNothing();
        refusedCallsSaveNothing();
        wholeStateIsSaved();
        textAndStopAreNotSaved();
        latestFourAreKept();
        theStackGoesRound();
        refusedCallsOfAnEmptyBench();
        refusedCallsOfAFullBench();
        firstListedException();
        noneOnlyWithoutException();
        undoAnswers();
        undoOfAnEmptyStack();
        digestsOfNewFields();
        digestOfWhatStands();
        digestOfStackTextAndStop();
        Check.finish();
    }

    /** Three microphones, two walls, two screens and a click, with two states on the stack and an empty text. */
    private static ClickBench busy() {
        ClickBench bench = new ClickBench();
        String field = "field 4 3;mic 30 40;mic 300 20;mic 90 210;wall 0 700 5;wall 1 600 9;screen 0 100 0 80;";
        String clicks = "screen 1 90 10 80;set 1 2;known 44 55 66;click 77 88 99;";
        Check.due("a busy bench", 11, Check.run(bench, field + clicks));
        bench.clearCommands();
        bench.setClock(1, 44);
        return bench;
    }

    /** All that undo restores, as one number. */
    private static long state(ClickBench bench) {
        long h = 0;
        for (int what = 0; what <= 10; what++) {
            h = 31 * h + bench.whole(what);
        }
        for (int kind = 0; kind < 4; kind++) {
            int count = kind < 3 ? bench.whole(2 + kind) : 7;
            for (int i = 0; i < count; i++) {
                for (int what = 0; what < new int[] {4, 3, 4, 1}[kind]; what++) {
                    h = 31 * h + bench.part(kind, i, what);
                }
            }
        }
        for (int i = 0; i < bench.whole(2); i++) {
            h = 31 * h + bench.note(i);
            for (int what = 0; what < 4; what++) {
                h = 31 * h + bench.heard(i, what);
            }
        }
        return h;
    }

    /** The number of states on the stack; takes them all. */
    private static int emptied(ClickBench bench) {
        int depth = 0;
        while (depth < 9 && Check.thrownBy(bench::undo).equals("nothing")) {
            depth++;
        }
        return depth;
    }

    private static void undoable(String what, Consumer<ClickBench> call) {
        ClickBench bench = busy();
        long before = state(bench);
        call.accept(bench);
        Check.due(what + ": states left behind undo", 2, bench.undo());
        Check.due(what + ": the state from before the call", before, state(bench));
        call.accept(bench);
        call.accept(bench);
        Check.due(what + " twice: states", 4, emptied(bench));
    }

    private static void undoableCalls() {
        Check.says("UNDO", "The saved state is the one from before the call.");
        undoable("begin", bench -> bench.begin(5, 6));
        undoable("addMicrophone", bench -> bench.addMicrophone(7, 8));
        undoable("setClock", bench -> bench.setClock(0, -9));
        undoable("addWall", bench -> bench.addWall(1, 2, 3));
        undoable("addScreen", bench -> bench.addScreen(1, 2, 3, 4));
        undoable("remove of a microphone", bench -> bench.remove(0, 0));
        undoable("remove of a wall", bench -> bench.remove(1, 0));
        undoable("remove of a screen", bench -> bench.remove(2, 0));
        undoable("set", bench -> bench.set(0, 777));
        undoable("setS", bench -> bench.setS(4242));
        undoable("click", bench -> bench.click(10, 20, 30));
        undoable("calibrate", bench -> bench.calibrate(10, 20, 30));
        undoable("runCommands", bench -> Check.run(bench, "mic 1 2;set 6 4;click 3 4 5;"));
        undoable("a run that stops", bench -> Check.run(bench, "mic 1 2;set 6 501;click 3 4 5;"));
    }

    private static void undoableWithoutChange() {
        Check.says("UNDO", UNDOABLE);
        undoable("setClock of the same", bench -> bench.setClock(1, 44));
        undoable("set of the same", bench -> bench.set(1, 2));
        undoable("setS of the same", bench -> bench.setS(bench.whole(10)));
        undoable("a run of an empty text", bench -> Check.run(bench, ""));
        undoable("a run of spaces", bench -> Check.run(bench, "  "));
        undoable("a run that stops at once", bench -> Check.run(bench, "set 9 9;mic 0 0;"));
        ClickBench bench = new ClickBench();
        long before = state(bench);
        bench.begin(10, 8);
        Check.due("begin of the same", before, state(bench));
        Check.due("is saved", 0, bench.undo());
    }

    private static void savesNothing(String what, Consumer<ClickBench> call) {
        ClickBench bench = busy();
        long before = state(bench);
        Check.thrownBy(() -> call.accept(bench));
        Check.due(what + ": state", before, state(bench));
        Check.due(what + ": states", 2, emptied(bench));
    }

    private static void otherCallsSaveNothing() {
        Check.says("UNDO", UNDOABLE);
        savesNothing("note", bench -> bench.note(0));
        savesNothing("heard", bench -> bench.heard(0, 0));
        savesNothing("arrivals", bench -> bench.arrivals(5, 5, 0));
        savesNothing("arrival", bench -> bench.arrival(5, 5, 0, 0, 0));
        savesNothing("delay", bench -> bench.delay(0, 1));
        savesNothing("expected", bench -> bench.expected(0, 0, 1));
        savesNothing("votes", bench -> bench.votes(0));
        savesNothing("error", bench -> bench.error(0));
        savesNothing("found", ClickBench::found);
        savesNothing("middle", bench -> bench.middle(true));
        savesNothing("blame", bench -> bench.blame(0));
        savesNothing("suspect", ClickBench::suspect);
        savesNothing("foundWithout", bench -> bench.foundWithout(0));
        savesNothing("whole", bench -> bench.whole(9));
        savesNothing("part", bench -> bench.part(0, 0, 0));
        savesNothing("type", bench -> bench.type('m'));
        savesNothing("clearCommands", ClickBench::clearCommands);
        savesNothing("a run with a fault", bench -> Check.run(bench, "mic 0 0"));
        savesNothing("stop", ClickBench::stop);
        savesNothing("digest", ClickBench::digest);
    }

    private static void refusedCallsSaveNothing() {
        Check.says("UNDO", UNDOABLE);
        savesNothing("begin", bench -> bench.begin(1, 2));
        savesNothing("addMicrophone", bench -> bench.addMicrophone(2501, 0));
        savesNothing("setClock without microphone", bench -> bench.setClock(3, 0));
        savesNothing("setClock out of range", bench -> bench.setClock(0, 501));
        savesNothing("addWall", bench -> bench.addWall(2, 0, 0));
        savesNothing("addScreen", bench -> bench.addScreen(0, 0, 1, 1));
        savesNothing("remove of no kind", bench -> bench.remove(3, 0));
        savesNothing("remove of nothing", bench -> bench.remove(1, 2));
        savesNothing("set", bench -> bench.set(6, 501));
        savesNothing("setS", bench -> bench.setS(-1));
        savesNothing("click", bench -> bench.click(3001, 0, 0));
        savesNothing("calibrate", bench -> bench.calibrate(0, 0, 100001));
    }

    private static void wholeStateIsSaved() {
        Check.says("UNDO", UNDOABLE);
        ClickBench bench = busy();
        bench.setS(2147483647);
        long before = state(bench);
        int[] notes = {bench.note(0), bench.note(1), bench.note(2)};
        String settings = "set 0 100;set 1 1;set 2 0;set 3 9;set 4 0;set 5 1;set 6 9;";
        Check.due("another field", 11, Check.run(bench, "field 2 2;" + settings + "mic 9 9;wall 0 9 9;click 9 9 9;"));
        Check.run(bench, "field 20 20;screen 0 1 2 3;mic 1 2;mic 3 4;known 5 6 7;");
        bench.undo();
        bench.undo();
        Check.due("all is as before", before, state(bench));
        for (int i = 0; i < 3; i++) {
            Check.due("note " + i, notes[i], bench.note(i));
        }
        Check.due("s", 2147483647, bench.whole(10));
        Check.due("clicks", 2, bench.whole(5));
    }

    private static void textAndStopAreNotSaved() {
        Check.says("UNDO", UNDOABLE);
        ClickBench bench = new ClickBench();
        Check.run(bench, "set 9 9;");
        Check.due("a stop", 2, bench.stop());
        bench.addMicrophone(0, 0);
        Check.run(bench, "mic 1 1;");
        Check.due("no stop", 0, bench.stop());
        bench.undo();
        Check.due("the run is undone, but not that it had no stop", 0, bench.stop());
        bench.undo();
        bench.undo();
        Check.due("nor that there was one", 0, bench.stop());
        Check.due("the text is that of the second run", 1, bench.runCommands());
        Check.due("a microphone", 1, bench.whole(2));
        bench.clearCommands();
        bench.undo();
        Check.due("an emptied text stays empty", 0, bench.clearCommands());
        Check.run(bench, "click 0 0 0;");
        bench.undo();
        Check.due("the stop of a run that is undone", 3, bench.stop());
    }

    private static void latestFourAreKept() {
        Check.says("UNDO", KEPT);
        for (int calls = 0; calls <= 10; calls++) {
            ClickBench bench = new ClickBench();
            for (int i = 1; i <= calls; i++) {
                bench.setS(100 + i);
            }
            int kept = Math.min(calls, 4);
            for (int i = 1; i <= kept; i++) {
                Check.due("states left of " + calls, kept - i, bench.undo());
                int due = calls - i == 0 ? 1 : 100 + calls - i;
                Check.due("s behind undo " + i + " of " + calls + " calls", due, bench.whole(10));
            }
            Check.throwing("undo " + (kept + 1) + " of " + calls + " calls", Check.STATE, bench::undo);
        }
    }

    /** Calls and undos in turn, against a stack of the library. */
    private static void theStackGoesRound() {
        Check.says("UNDO", KEPT);
        ClickBench bench = new ClickBench();
        Deque<Integer> states = new ArrayDeque<>();
        int s = 1;
        for (int i = 0; i < 200; i++) {
            boolean isUndo = (i * i + i / 3) % 5 < 2;
            if (isUndo && states.isEmpty()) {
                Check.throwing("undo of nothing", Check.STATE, bench::undo);
            } else if (isUndo) {
                s = states.removeLast();
                Check.due("states left", states.size(), bench.undo());
            } else {
                states.addLast(s);
                if (states.size() > 4) {
                    states.removeFirst();
                }
                bench.setS(1000 + i);
                s = 1000 + i;
            }
            Check.due("s behind step " + i, s, bench.whole(10));
        }
    }

    /** Refuses calls on one of two benches alike; both must go on alike, back through all of their states. */
    private static void refusals(ClickBench bench, ClickBench twin, Runnable... calls) {
        for (int i = 0; i < calls.length; i++) {
            Runnable call = calls[i];
            long before = bench.digest();
            Check.due("call " + i + " is refused", 0, Check.thrownBy(call::run).equals("nothing") ? 1 : 0);
            Check.due("digest behind call " + i, before, bench.digest());
        }
        Check.due("runs alike", twin.runCommands(), bench.runCommands());
        Check.due("states alike", twin.digest(), bench.digest());
        while (Check.thrownBy(twin::undo).equals("nothing")) {
            bench.undo();
            Check.due("states alike behind undo", twin.digest(), bench.digest());
        }
        Check.throwing("and no more of them", Check.STATE, bench::undo);
        Check.due("texts alike", twin.clearCommands(), bench.clearCommands());
    }

    private static void refusedCallsOfAnEmptyBench() {
        Check.says("EXCEPTIONS", "A call that throws an exception changes nothing.");
        ClickBench bench = new ClickBench();
        refusals(bench, new ClickBench(),
                () -> bench.begin(1, 1), () -> bench.addMicrophone(-501, 0), () -> bench.setClock(0, 0),
                () -> bench.addWall(0, 0, 101), () -> bench.addScreen(0, 0, 0, 0), () -> bench.remove(0, 0),
                () -> bench.remove(3, 0), () -> bench.set(0, 0), () -> bench.setS(-1), () -> bench.click(0, 0, 0),
                () -> bench.calibrate(0, 0, 0), () -> bench.note(0), () -> bench.heard(0, 0),
                () -> bench.arrivals(0, 0, 0), () -> bench.arrival(0, 0, 0, 0, 0), () -> bench.delay(0, 1),
                () -> bench.expected(0, 0, 1), () -> bench.votes(80), () -> bench.error(80), () -> bench.blame(0),
                () -> bench.foundWithout(0), () -> bench.whole(11), () -> bench.part(0, 0, 0),
                () -> bench.type(128), bench::undo);
    }

    /** Eight microphones, four walls, four screens, a full stack, and a full text that adds to the clicks. */
    private static ClickBench full() {
        ClickBench bench = new ClickBench();
        Check.run(bench, "mic 0 0;".repeat(8) + "wall 0 9 9;".repeat(4));
        Check.run(bench, "screen 0 9 9 10;".repeat(4));
        bench.setClock(3, 7);
        bench.calibrate(100, 200, 300);
        bench.click(100, 200, 300);
        bench.clearCommands();
        Check.type(bench, " ".repeat(137) + "click 1 2 30;");
        return bench;
    }

    private static void refusedCallsOfAFullBench() {
        Check.says("EXCEPTIONS", "A call that throws an exception changes nothing.");
        ClickBench bench = full();
        refusals(bench, full(),
                () -> bench.begin(21, 20), () -> bench.addMicrophone(0, 0), () -> bench.setClock(8, 0),
                () -> bench.setClock(0, 501), () -> bench.addWall(0, 0, 0), () -> bench.addScreen(0, 0, 0, 1),
                () -> bench.remove(0, 8), () -> bench.remove(1, 4), () -> bench.remove(2, 4), () -> bench.set(7, 0),
                () -> bench.setS(-1), () -> bench.click(0, 0, 100001), () -> bench.calibrate(0, 3001, 0),
                () -> bench.note(8), () -> bench.heard(0, 4), () -> bench.arrivals(-1001, 0, 0),
                () -> bench.arrival(0, 0, 0, -1, 0), () -> bench.delay(1, 1), () -> bench.expected(0, 2, 2),
                () -> bench.votes(-1), () -> bench.error(-1), () -> bench.blame(8), () -> bench.foundWithout(8),
                () -> bench.whole(-1), () -> bench.part(0, 0, 4), () -> bench.type(0));
    }

    private static void firstListedException() {
        Check.says("EXCEPTIONS", LISTED_FIRST);
        ClickBench bench = full();
        Check.refused(bench, "addMicrophone", Check.ARGUMENT, () -> bench.addMicrophone(2501, 0));
        Check.refused(bench, "setClock", Check.INDEX, () -> bench.setClock(8, 501));
        Check.refused(bench, "addWall", Check.ARGUMENT, () -> bench.addWall(2, 0, 0));
        Check.refused(bench, "addScreen", Check.ARGUMENT, () -> bench.addScreen(0, 0, 1, 1));
        Check.refused(bench, "remove", Check.ARGUMENT, () -> bench.remove(3, 8));
        Check.refused(bench, "heard", Check.INDEX, () -> bench.heard(8, 4));
        Check.refused(bench, "arrivals", Check.INDEX, () -> bench.arrivals(3001, 0, 8));
        Check.refused(bench, "arrival", Check.INDEX, () -> bench.arrival(0, 0, 8, -1, 0));
        Check.refused(bench, "delay", Check.INDEX, () -> bench.delay(8, 8));
        Check.refused(bench, "expected of no microphone", Check.INDEX, () -> bench.expected(0, 8, 8));
        Check.refused(bench, "expected of no cell", Check.INDEX, () -> bench.expected(80, 1, 1));
        Check.refused(bench, "part", Check.ARGUMENT, () -> bench.part(0, 8, 4));
        Check.refused(bench, "type", Check.ARGUMENT, () -> bench.type(-1));
        ClickBench empty = new ClickBench();
        Check.refused(empty, "click", Check.ARGUMENT, () -> empty.click(0, 0, -1));
        Check.refused(empty, "calibrate", Check.ARGUMENT, () -> empty.calibrate(0, 0, -1));
    }

    private static void noneOnlyWithoutException() {
        Check.says("EXCEPTIONS", "NONE is returned only if no exception applies.");
        ClickBench bench = new ClickBench();
        bench.addMicrophone(0, 0);
        bench.addMicrophone(5, 5);
        Check.due("note", NONE, bench.note(1));
        Check.throwing("note of no microphone", Check.INDEX, () -> bench.note(2));
        Check.due("heard", NONE, bench.heard(1, 3));
        Check.throwing("heard of no value", Check.ARGUMENT, () -> bench.heard(1, 4));
        Check.throwing("heard of no microphone", Check.INDEX, () -> bench.heard(2, 3));
        Check.due("arrival", NONE, bench.arrival(0, 0, 1, 1, 3));
        Check.throwing("arrival of no value", Check.ARGUMENT, () -> bench.arrival(0, 0, 1, 1, 4));
        Check.throwing("arrival at no place", Check.ARGUMENT, () -> bench.arrival(0, 3001, 1, 1, 3));
        Check.throwing("arrival at no microphone", Check.INDEX, () -> bench.arrival(0, 0, 2, 1, 3));
        Check.due("delay", NONE, bench.delay(0, 1));
        Check.throwing("delay of one", Check.ARGUMENT, () -> bench.delay(1, 1));
        Check.throwing("delay of no microphone", Check.INDEX, () -> bench.delay(0, 2));
        Check.due("blame", NONE, bench.blame(1));
        Check.throwing("blame of no microphone", Check.INDEX, () -> bench.blame(2));
        Check.due("foundWithout", NONE, bench.foundWithout(1));
        Check.throwing("foundWithout no microphone", Check.INDEX, () -> bench.foundWithout(2));
    }

    private static void undoAnswers() {
        Check.says(31, "Returns the number of states that are left on the stack.");
        ClickBench bench = new ClickBench();
        bench.setS(2);
        Check.due("one state", 0, bench.undo());
        for (int i = 0; i < 4; i++) {
            bench.setS(3 + i);
        }
        Check.due("four states", 3, bench.undo());
        Check.due("three", 2, bench.undo());
        bench.setS(9);
        Check.due("three again", 2, bench.undo());
        Check.due("two", 1, bench.undo());
        Check.due("one", 0, bench.undo());
        Check.says(31, "Restores the latest saved state and removes it from the undo stack.");
        Check.due("s", 1, bench.whole(10));
        ClickBench other = new ClickBench();
        other.setS(2);
        other.undo();
        Check.throwing("an undo can't be undone", Check.STATE, other::undo);
    }

    private static void undoOfAnEmptyStack() {
        Check.says(31, "Throws `IllegalStateException` if the stack is empty");
        ClickBench bench = new ClickBench();
        Check.refused(bench, "a new object", Check.STATE, bench::undo);
        Check.refused(bench, "and again", Check.STATE, bench::undo);
        bench.setS(2);
        Check.due("a state", 0, bench.undo());
        Check.refused(bench, "behind it", Check.STATE, bench::undo);
        for (int i = 0; i < 9; i++) {
            bench.setS(3 + i);
        }
        Check.due("four states of nine", 4, emptied(bench));
        Check.refused(bench, "behind them", Check.STATE, bench::undo);
        Check.due("s of the fifth", 7, bench.whole(10));
        bench.begin(2, 2);
        Check.due("begin() is undone as the others", 0, bench.undo());
    }

    private static final String DIGEST = "Returns a hash of the state. It starts with h = 18879. For each of the "
            + "following values v, in this order, h becomes 31 * h + v (long arithmetic, overflow wraps).";

    private static final String VALUES = "the number of states on the undo stack, the length of the command "
            + "text, stop(); whole() of 0 to 10; for each microphone part() of 0 to 3, note(), heard() of 0 to "
            + "3, and blame(); for each wall part() of 0 to 2; for each screen part() of 0 to 3; the settings 0 "
            + "to 6; found(), suspect(); for each cell its votes and its error.";

    private static void digestsOfNewFields() {
        Check.says(32, DIGEST);
        ClickBench bench = new ClickBench();
        Check.due("a new object", 3969438139820323471L, bench.digest());
        bench.begin(2, 2);
        Check.due("the smallest field", -4777027246868871086L, bench.digest());
        bench.undo();
        Check.due("the new object again", 3969438139820323471L, bench.digest());
        bench.begin(20, 20);
        Check.due("the greatest field", -4856111702103186286L, bench.digest());
    }

    private static void digestOfWhatStands() {
        Check.says(32, VALUES);
        ClickBench bench = new ClickBench();
        bench.begin(2, 2);
        bench.addMicrophone(-500, 2500);
        bench.addWall(1, -1000, 100);
        bench.addScreen(0, 3000, -1000, 3000);
        Check.due("one of each, without a click", 3176357192655008737L, bench.digest());
        ClickBench pair = new ClickBench();
        pair.begin(2, 2);
        pair.addMicrophone(50, 50);
        pair.addMicrophone(50, 50);
        pair.setClock(1, 21);
        pair.click(50, 50, 7);
        Check.due("a pair that doesn't vote", 6404255523281217035L, pair.digest());
    }

    private static void digestOfStackTextAndStop() {
        Check.says(32, VALUES);
        ClickBench bench = new ClickBench();
        Check.run(bench, "click 0 0 0;");
        bench.clearCommands();
        Check.type(bench, "!".repeat(150));
        Check.due("one state, 150 bytes and a stop of 3", -2375150128762425987L, bench.digest());
    }
}
