/** Texts, undo, exceptions and promises 27 to 32: a test for each sentence that names a boundary case. */
public final class CommandEdgesTest {
    private static final int LEAST = Integer.MIN_VALUE;
    private static final int GREATEST = Integer.MAX_VALUE;

    /** Tells that a text has no fault. */
    private static final int FINE = -1;

    public static void main(String[] args) {
        bytesOfTheText();
        emptyTexts();
        digits();
        spacesInFrontOfNumbers();
        otherSpaces();
        words();
        numbersOfEachWord();
        faultPlaces();
        textsThatEndTooSoon();
        strangeWords();
        numbersOutOfRange();
        faultsDoNothing();
        runsThatStop();
        runsSaveOneState();
        typeRefusals();
        clearing();
        runAnswers();
        runStop();
        stops();
        stopsOfEachCommand();
        Check.finish();
    }

    private static void fault(String text, int due) {
        ClickBench bench = new ClickBench();
        int got = Check.run(bench, text);
        Check.due("fault of \"" + text + "\"", due, got <= -10 ? -10 - got : FINE);
    }

    private static void bytesOfTheText() {
        Check.says("TEXTS OF COMMANDS", "The command text has at most 150 bytes.");
        ClickBench bench = new ClickBench();
        Check.due("150 bytes that run", 18, Check.run(bench, "set 6 9;".repeat(18) + " ".repeat(6)));
        Check.throwing("a byte more", Check.STATE, () -> bench.type(' '));
        Check.due("they run again", 18, bench.runCommands());
        Check.due("a command at the very end", 2, Check.run(bench, "set 6 8;" + " ".repeat(134) + "set 5 1;"));
        Check.due("was carried out", 1, bench.part(3, 5, 0));
        fault(" ".repeat(149) + "!", 149);
        fault(" ".repeat(149) + ";", 149);
        fault(" ".repeat(142) + "set 5 11", 150);
        fault(" ".repeat(147) + "mic", 150);
        fault(" ".repeat(149) + "m", 149);
        fault("a".repeat(150), 0);
        fault("set 5" + " ".repeat(145), 150);
        fault("set 5" + " ".repeat(143) + "1;", FINE);
    }

    private static void emptyTexts() {
        Check.says("TEXTS OF COMMANDS", "It is a sequence of commands (perhaps none: a text that is empty, or "
                + "has spaces alone, has no fault)");
        fault("", FINE);
        fault(" ", FINE);
        fault(" ".repeat(150), FINE);
        fault("\t", 0);
        fault(" \n", 1);
        fault("\0", 0);
        fault("\u007f", 0);
        fault("!", 0);
        fault("\u001f", 0);
    }

    private static void digits() {
        Check.says("TEXTS OF COMMANDS", "each of one to five digits (zeros in front are allowed; a sixth digit "
                + "cannot stand)");
        fault("mic 1 2;", FINE);
        fault("mic 12345 12345;", FINE);
        fault("mic 99999 99999;", FINE);
        fault("mic 00000 00000;", FINE);
        fault("mic 123456 1;", 9);
        fault("mic 000001 1;", 9);
        fault("mic 1 123456;", 11);
        fault("mic 1 000000;", 11);
        fault("click 1 2 123456;", 15);
        fault("mic  1 ;", 7);
        ClickBench bench = new ClickBench();
        Check.due("zeros in front", 1, Check.run(bench, "mic 00012 02500;"));
        Check.due("x", 12, bench.part(0, 0, 0));
        Check.due("y", 2500, bench.part(0, 0, 1));
        Check.due("zeros alone", 1, Check.run(bench, "mic 0 00000;"));
        Check.due("x of them", 0, bench.part(0, 1, 0));
        Check.due("y of them", 0, bench.part(0, 1, 1));
        Check.due("the greatest number", 1, Check.run(bench, "click 0 0 99999;"));
        Check.due("is heard", 99999, bench.note(1));
        Check.due("each digit counts", 2, Check.run(bench, "click 0 0 12345;click 0 0 67890;"));
        Check.due("the latest", 67890, bench.note(1));
    }

    private static void spacesInFrontOfNumbers() {
        Check.says("TEXTS OF COMMANDS", "and with at least one space (byte 32) in front, and a semicolon.");
        fault("mic 1 2;", FINE);
        fault("mic  1   2;", FINE);
        fault("mic1 2;", 3);
        fault("mic\t1 2;", 3);
        fault("mic 1\t2;", 5);
        fault("mic 1,2;", 5);
        fault("mic 1-2;", 5);
        fault("mic 1 2", 7);
        fault("mic 1 2,", 7);
        fault("mic 1 2:", 7);
        fault("mic 1 2 mic 1 2;", 8);
    }

    private static void otherSpaces() {
        Check.says("TEXTS OF COMMANDS", "Spaces may also stand in front of a command, in front of a semicolon, "
                + "and at the end.");
        fault(" mic 1 2;", FINE);
        fault("mic 1 2 ;", FINE);
        fault("mic 1 2    ;", FINE);
        fault("mic 1 2; ", FINE);
        fault("mic 1 2;mic 1 2;", FINE);
        fault("mic 1 2;   mic 1 2;", FINE);
        fault("   mic   1   2   ;   mic   1   2   ;   ", FINE);
        fault("m ic 1 2;", 0);
        fault("mic 1 2 3;", 8);
    }

    private static void words() {
        Check.says("TEXTS OF COMMANDS", "The words are: field c r (begin(c, r)), mic x y (addMicrophone(x, y)), "
                + "wall a c l (addWall(a, c, l)), screen a c f g (addScreen(a, c, f, g)), set k v (set(k, v)), "
                + "click x y t (click(x, y, t)), known x y t (calibrate(x, y, t)).");
        ClickBench bench = new ClickBench();
        Check.due("field", 1, Check.run(bench, "field 20 2;"));
        Check.due("columns", 20, bench.whole(0));
        Check.due("rows", 2, bench.whole(1));
        Check.due("mic", 1, Check.run(bench, "mic 2500 7;"));
        Check.due("x", 2500, bench.part(0, 0, 0));
        Check.due("y", 7, bench.part(0, 0, 1));
        Check.due("wall", 1, Check.run(bench, "wall 1 3000 100;"));
        Check.due("screen", 1, Check.run(bench, "screen 1 3000 2999 3000;"));
        int[] screen = {1, 3000, 2999, 3000};
        for (int what = 0; what < 4; what++) {
            Check.due("the screen's part " + what, screen[what], bench.part(2, 0, what));
        }
        for (int what = 0; what < 3; what++) {
            Check.due("the wall's part " + what, what == 2 ? 100 : screen[what], bench.part(1, 0, what));
        }
        Check.due("set", 2, Check.run(bench, "set 6 500;set 0 1000;"));
        Check.due("tolerance", 500, bench.part(3, 6, 0));
        Check.due("speed", 1000, bench.part(3, 0, 0));
        bench.setClock(0, 33);
        Check.due("click", 1, Check.run(bench, "click 2500 9 99999;"));
        Check.due("its note", 99999 + 2 + 33, bench.note(0));
        Check.due("known", 1, Check.run(bench, "known 2500 11 70000;"));
        Check.due("its offset", 33, bench.part(0, 0, 3));
        Check.due("its note", 70004, bench.note(0));
        Check.due("clicks", 2, bench.whole(5));
        commandsAreCalls();
    }

    /** Each command on one bench, each call on another one. */
    private static void commandsAreCalls() {
        ClickBench typed = new ClickBench();
        ClickBench called = new ClickBench();
        called.begin(20, 2);
        same("field 20 2;", typed, called);
        called.addMicrophone(2500, 7);
        same("mic 2500 7;", typed, called);
        called.addMicrophone(11, 0);
        same("mic 11 0;", typed, called);
        called.addWall(1, 1, 100);
        same("wall 1 1 100;", typed, called);
        called.addScreen(0, 500, 499, 700);
        same("screen 0 500 499 700;", typed, called);
        called.set(0, 499);
        same("set 0 499;", typed, called);
        called.click(2500, 9, 99999);
        same("click 2500 9 99999;", typed, called);
        called.setClock(1, 5);
        typed.setClock(1, 5);
        called.calibrate(2400, 9, 0);
        same("known 2400 9 0;", typed, called);
        called.begin(2, 3);
        same("field 2 3;", typed, called);
    }

    private static void same(String text, ClickBench typed, ClickBench called) {
        Check.due("commands of " + text, 1, Check.run(typed, text));
        typed.clearCommands();
        Check.due("digest behind " + text, called.digest(), typed.digest());
    }

    /** Each word with too few numbers, as many as it needs, and one more. */
    private static void numbersOfEachWord() {
        Check.says("TEXTS OF COMMANDS", "each of which is a word of letters a to z, followed by its numbers");
        String[] all = {"field", "mic", "wall", "screen", "set", "click", "known"};
        int[] needs = {2, 2, 3, 4, 2, 3, 3};
        for (int i = 0; i < all.length; i++) {
            String text = all[i];
            fault(text + ";", text.length());
            fault(text + " ;", text.length() + 1);
            for (int numbers = 1; numbers <= needs[i]; numbers++) {
                fault(text + " ", text.length() + 1);
                text += " 1";
                fault(text, text.length());
                fault(text + ";", numbers < needs[i] ? text.length() : FINE);
                fault(text + " ;", numbers < needs[i] ? text.length() + 1 : FINE);
            }
            fault(text + " 1;", text.length() + 1);
            fault(text + " 1", text.length() + 1);
        }
    }

    private static void faultPlaces() {
        Check.says("TEXTS OF COMMANDS", "The fault of a command text is the index of the first byte that cannot "
                + "stand at its place, or the length of the text if it ends too soon.");
        fault(";", 0);
        fault("  ;", 2);
        fault("1", 0);
        fault("Mic 1 2;", 0);
        fault("{", 0);
        fault("`", 0);
        fault("@", 0);
        fault("mic;", 3);
        fault("mic ;", 4);
        fault("mic a", 4);
        fault("mic -1 2;", 4);
        fault("mic / 2;", 4);
        fault("mic : 2;", 4);
        fault("mic 1/", 5);
        fault("mic 1:", 5);
        fault("mic 1x", 5);
        fault("mic 1 2;;", 8);
        fault("mic 1 2;7", 8);
        fault("mic 1 2; mic 1 2; mic 1;", 23);
        fault("mic 1 2 ;;mic;", 9);
    }

    private static void textsThatEndTooSoon() {
        Check.says("TEXTS OF COMMANDS", "The fault of a command text is the index of the first byte that cannot "
                + "stand at its place, or the length of the text if it ends too soon.");
        String whole = "screen 0 11 2 33 ;";
        for (int length = 7; length < whole.length(); length++) {
            fault(whole.substring(0, length), length);
        }
        fault("screen", 6);
        fault(whole, FINE);
        fault(whole + "mic", 21);
        fault(whole + " mic ", 23);
        fault("mic 12345", 9);
        fault("mic 1 12345", 11);
    }

    private static void strangeWords() {
        Check.says("TEXTS OF COMMANDS", "A word that is not one of these is at fault with its first byte, found "
                + "when the word is complete: when a byte that is no letter, or the end of the text, follows it.");
        fault("a", 0);
        fault("  mi", 2);
        fault("mi 1 2;", 0);
        fault("mi;", 0);
        fault("mi!", 0);
        fault("mi1", 0);
        fault("mi\0", 0);
        fault("miC", 0);
        fault("mics 1 2;", 0);
        fault("micc", 0);
        fault("z 1 2;", 0);
        fault("mid 1 2;", 0);
        fault("nic 1 2;", 0);
        fault("clicks 1 2 3;", 0);
        fault("setmic 1 2;", 0);
        fault("screens", 0);
        fault("mic 1 2; foo 1;", 9);
        fault("mic 1 2;foo", 8);
        fault("mic!", 3);
        fault("mic", 3);
        fault("micC", 3);
        fault("mic{", 3);
        fault("mic`", 3);
        for (String word : new String[] {"field", "mic", "wall", "screen", "set", "click", "known"}) {
            fault(word.substring(1) + " 1 2 3;", 0);
            fault(word.substring(0, word.length() - 1) + " 1 2 3;", 0);
            fault(word + "a 1 2 3;", 0);
        }
    }

    private static void numbersOutOfRange() {
        Check.says("TEXTS OF COMMANDS", "(That a number is out of its range is no fault.)");
        String[] texts = {"field 0 99999;", "mic 99999 0;", "wall 9 0 0;", "screen 0 0 5 5;", "set 99999 0;",
            "set 0 0;", "click 99999 99999 99999;", "known 99999 0 0;"};
        for (String text : texts) {
            fault(text, FINE);
            ClickBench bench = new ClickBench();
            Check.due("commands of " + text, 0, Check.run(bench, text));
            Check.due("stop of " + text, 2, bench.stop());
        }
    }

    private static void faultsDoNothing() {
        Check.says("TEXTS OF COMMANDS", "To run a command text means: if it has a fault, nothing is done;");
        ClickBench bench = new ClickBench();
        bench.addMicrophone(5, 5);
        bench.clearCommands();
        Check.type(bench, "mic 1 1;click 1 1 1;set 0 99;mic 7 7");
        long before = bench.digest();
        Check.due("a fault at the very end", -10 - 36, bench.runCommands());
        Check.due("digest", before, bench.digest());
        Check.due("one microphone", 1, bench.whole(2));
        Check.due("no state saved", 0, bench.undo());
    }

    private static void runsThatStop() {
        Check.says("TEXTS OF COMMANDS", "otherwise the commands are carried out in their order, until one of "
                + "them would throw an exception, which is not thrown, but kept as the stop; those before it "
                + "stay done, and they alone count.");
        ClickBench bench = new ClickBench();
        Check.due("the first stops", 0, Check.run(bench, "set 0 99;set 1 2;set 6 7;"));
        Check.due("those behind it are not done", 20, bench.part(3, 6, 0));
        Check.due("the middle one stops", 1, Check.run(bench, "set 1 2;set 0 99;set 6 7;"));
        Check.due("the one before it stays done", 2, bench.part(3, 1, 0));
        Check.due("the one behind it is not done", 20, bench.part(3, 6, 0));
        Check.due("the last one stops", 2, Check.run(bench, "set 1 1;set 6 7;set 0 99;"));
        Check.due("both stay done", 7, bench.part(3, 6, 0));
        Check.due("the one that stops changes nothing", 340, bench.part(3, 0, 0));
        Check.due("nine microphones", 8, Check.run(bench, "mic 0 0;".repeat(9)));
        Check.due("eight stand", 8, bench.whole(2));
        Check.due("no room", 3, bench.stop());
        Check.due("in their order", 3, Check.run(bench, "field 2 2;mic 1 1;click 0 0 5;field 1 2;"));
        Check.due("a click stands", 1, bench.whole(5));
    }

    private static void runsSaveOneState() {
        Check.says("TEXTS OF COMMANDS", "A run saves one state, the one from before it; its commands save none.");
        ClickBench bench = new ClickBench();
        Check.run(bench, "mic 0 0;".repeat(8));
        Check.due("one state of eight commands", 0, bench.undo());
        Check.due("the one from before it", 0, bench.whole(2));
        Check.run(bench, "");
        Check.due("one of no command", 0, bench.undo());
        Check.run(bench, "set 0 1;");
        Check.due("one of a run that stops at once", 0, bench.undo());
        for (int i = 0; i < 5; i++) {
            Check.run(bench, "mic " + i + " 0;mic " + i + " 1;");
        }
        for (int left = 3; left >= 0; left--) {
            Check.due("undo", left, bench.undo());
            Check.due("microphones", 2 * left + 2 > 8 ? 8 : 2 * left + 2, bench.whole(2));
        }
    }

    private static void typeRefusals() {
        Check.says(27, "`value`: 0 to 127");
        ClickBench bench = new ClickBench();
        Check.due("the least", 1, bench.type(0));
        Check.due("the greatest", 2, bench.type(127));
        Check.says(27, "Throws `IllegalArgumentException` if value is out of range");
        for (int wrong : new int[] {LEAST, -1, 128, 256 + 32, GREATEST}) {
            Check.refused(bench, "type(" + wrong + ")", Check.ARGUMENT, () -> bench.type(wrong));
        }
        Check.says(27, "Returns the length of the text.");
        for (int length = 3; length <= 150; length++) {
            Check.due("length", length, bench.type(' '));
        }
        Check.says(27, "Throws `IllegalStateException` if the text has 150 bytes");
        for (int value : new int[] {0, 32, 127}) {
            Check.refused(bench, "type(" + value + ")", Check.STATE, () -> bench.type(value));
        }
        for (int wrong : new int[] {LEAST, -1, 128, GREATEST}) {
            Check.refused(bench, "full, and " + wrong, Check.ARGUMENT, () -> bench.type(wrong));
        }
        Check.due("the first byte still stands", -10, bench.runCommands());
        bench.clearCommands();
        Check.due("room again", 1, bench.type(' '));
    }

    private static void clearing() {
        Check.says(28, "Returns the length that it had.");
        ClickBench bench = new ClickBench();
        Check.due("empty", 0, bench.clearCommands());
        Check.due("and still", 0, bench.clearCommands());
        bench.type('m');
        Check.due("one byte", 1, bench.clearCommands());
        Check.due("none", 0, bench.clearCommands());
        Check.type(bench, "m".repeat(150));
        Check.due("full", 150, bench.clearCommands());
        Check.says(28, "Empties the command text.");
        Check.due("an empty text has no fault", 0, bench.runCommands());
        Check.due("a shorter text has nothing of the one before", 1, Check.run(bench, "set 6 1;"));
    }

    private static void runAnswers() {
        Check.says(29, "Returns the number of commands that were carried out; -10 minus the fault if it has one.");
        ClickBench bench = new ClickBench();
        Check.due("none", 0, bench.runCommands());
        Check.due("one", 1, Check.run(bench, "set 6 1;"));
        Check.due("eighteen", 18, Check.run(bench, "set 6 1;".repeat(18)));
        Check.due("a fault at 0", -10, Check.run(bench, "!"));
        Check.due("a fault at 149", -159, Check.run(bench, " ".repeat(149) + "!"));
        Check.due("a full text that ends too soon", -160, Check.run(bench, " ".repeat(149 - 3) + "set "));
        Check.due("a stop at the first", 0, Check.run(bench, "set 7 1;"));
        Check.says(29, "Runs the command text, which stays as it is.");
        Check.due("a text", 2, Check.run(bench, "set 6 1;set 6 2;"));
        Check.due("stays", 2, bench.runCommands());
        bench.undo();
        Check.due("and is not undone", 2, bench.runCommands());
        Check.due("its length", 16, bench.clearCommands());
        Check.due("one with a fault", -18, Check.run(bench, "set 6 1;;"));
        Check.due("stays, too", 9, bench.clearCommands());
        Check.due("one that stops", 1, Check.run(bench, "set 6 1;set 6 501;"));
        Check.due("stays, too", 18, bench.clearCommands());
        Check.says(29, "Undoable, if it has no fault.");
        ClickBench other = new ClickBench();
        Check.run(other, "mic 1 1");
        Check.throwing("a fault saves no state", Check.STATE, other::undo);
        Check.type(other, ";");
        Check.due("now it runs", 1, other.runCommands());
        Check.due("and saves one", 0, other.undo());
        Check.due("from before it", 0, other.whole(2));
    }

    private static void runStop() {
        Check.says(29, "(The stop is that of this run; a run that meets none, also one without commands, has "
                + "none. With a fault the stop stays.)");
        ClickBench bench = new ClickBench();
        Check.run(bench, "set 7 7;");
        Check.due("a stop", 2, bench.stop());
        Check.run(bench, "set 7 7");
        Check.due("stays with a fault", 2, bench.stop());
        Check.run(bench, "click 0 0 0;");
        Check.due("is another one", 3, bench.stop());
        Check.run(bench, "click 0 0 0;!");
        Check.due("stays with a fault", 3, bench.stop());
        Check.run(bench, "");
        Check.due("a run without commands", 0, bench.stop());
        Check.run(bench, "set 7 7;");
        Check.run(bench, "   ");
        Check.due("a run of spaces", 0, bench.stop());
        Check.run(bench, "set 7 7;");
        Check.run(bench, "set 6 7;");
        Check.due("a run that meets none", 0, bench.stop());
        Check.run(bench, "!");
        Check.due("no stop stays, too", 0, bench.stop());
    }

    private static void stops() {
        Check.says(30, "Returns 0 if it met no exception, or there was no run, 1 for an "
                + "IndexOutOfBoundsException, 2 for an IllegalArgumentException, 3 for an IllegalStateException.");
        ClickBench bench = new ClickBench();
        Check.due("no run", 0, bench.stop());
        Check.run(bench, "oops");
        Check.due("a fault is no run", 0, bench.stop());
        Check.throwing("a call", Check.STATE, () -> bench.click(0, 0, 0));
        Check.due("is no run either", 0, bench.stop());
        Check.run(bench, "known 0 0 0;");
        Check.due("a run", 3, bench.stop());
        bench.addMicrophone(0, 0);
        bench.begin(2, 2);
        bench.clearCommands();
        bench.type('x');
        Check.due("stays behind calls", 3, bench.stop());
        bench.undo();
        bench.undo();
        bench.undo();
        Check.due("stays behind undo", 3, bench.stop());
    }

    private static void stop(String text, int done, int stop) {
        ClickBench bench = new ClickBench();
        Check.due("commands of " + text, done, Check.run(bench, text));
        Check.due("stop of " + text, stop, bench.stop());
    }

    /** Each command at the edge of what it may do, and behind it. */
    private static void stopsOfEachCommand() {
        Check.says(30, "Returns 0 if it met no exception, or there was no run, 1 for an "
                + "IndexOutOfBoundsException, 2 for an IllegalArgumentException, 3 for an IllegalStateException.");
        stop("field 2 20;field 20 2;", 2, 0);
        stop("field 1 20;", 0, 2);
        stop("field 20 1;", 0, 2);
        stop("field 21 2;", 0, 2);
        stop("field 2 21;", 0, 2);
        stop("mic 2500 2500;mic 0 0;", 2, 0);
        stop("mic 2501 0;", 0, 2);
        stop("mic 0 2501;", 0, 2);
        stop("wall 0 3000 0;wall 1 0 100;", 2, 0);
        stop("wall 2 0 0;", 0, 2);
        stop("wall 0 3001 0;", 0, 2);
        stop("wall 0 0 101;", 0, 2);
        stop("wall 0 1 1;".repeat(5), 4, 3);
        stop("wall 0 1 1;".repeat(4) + "wall 2 1 1;", 4, 2);
        stop("screen 0 3000 0 3000;screen 1 0 0 1;", 2, 0);
        stop("screen 2 0 0 1;", 0, 2);
        stop("screen 0 3001 0 1;", 0, 2);
        stop("screen 0 0 3000 3000;", 0, 2);
        stop("screen 0 0 0 3001;", 0, 2);
        stop("screen 0 0 1 0;", 0, 2);
        stop("screen 0 1 1 2;".repeat(5), 4, 3);
        stop("screen 0 1 1 2;".repeat(4) + "screen 0 1 2 2;", 4, 2);
        stop("mic 1 1;".repeat(8) + "mic 1 2501;", 8, 2);
        stop("set 0 100;set 0 1000;set 1 2;set 2 100;set 3 50;set 4 1000;set 5 1;set 6 500;", 8, 0);
        String[] wrong = {"0 99", "0 1001", "1 0", "1 3", "2 101", "3 51", "4 1001", "5 2", "6 501", "7 0"};
        for (String w : wrong) {
            stop("set " + w + ";", 0, 2);
        }
        stop("mic 0 0;click 3000 3000 99999;known 3000 3000 99999;", 3, 0);
        for (String word : new String[] {"click", "known"}) {
            stop("mic 0 0;" + word + " 3001 0 0;", 1, 2);
            stop("mic 0 0;" + word + " 0 3001 0;", 1, 2);
            stop(word + " 0 0 0;", 0, 3);
            stop(word + " 3001 0 0;", 0, 2);
        }
    }
}
