/** Pairs, votes and promises 16 to 26: a test for each sentence that names a boundary case, behind its words. */
public final class PairEdgesTest {
    private static final int NONE = ClickBench.NONE;
    private static final int LEAST = Integer.MIN_VALUE;
    private static final int GREATEST = Integer.MAX_VALUE;

    /** Numbers that two microphones don't have. */
    private static final int[] WRONG_OF_TWO = {LEAST, -1, 2, 8, GREATEST};

    public static void main(String[] args) {
        pairs();
        expectedDelays();
        tolerance();
        errors();
        mostVotes();
        leastError();
        lowestNumber();
        noVotes();
        noPair();
        blames();
        suspects();
        delayRefusals();
        expectedRefusals();
        cellRefusals();
        foundAnswers();
        middles();
        blameAnswers();
        suspectAnswers();
        without();
        wholes();
        wholeRefusals();
        parts();
        partRefusals();
        Check.finish();
    }

    /** Four cells, and microphones in the middles of the upper two; the speed makes times of ways. */
    private static ClickBench four() {
        ClickBench bench = new ClickBench();
        bench.begin(2, 2);
        bench.set(0, 1000);
        bench.addMicrophone(50, 50);
        bench.addMicrophone(150, 50);
        return bench;
    }

    /** As four(), with a click in cell 0 behind clocks that go wrong. */
    private static ClickBench clicked(int firstError, int secondError) {
        ClickBench bench = four();
        bench.setClock(0, firstError);
        bench.setClock(1, secondError);
        bench.click(50, 50, 1000);
        return bench;
    }

    private static void pairs() {
        Check.says("PAIRS AND VOTES", "A pair are two microphones i < j that have both noted something; its "
                + "delay is the note of i minus that of j.");
        ClickBench bench = new ClickBench();
        for (int count = 1; count <= 8; count++) {
            bench.addMicrophone(100 * count, 0);
            Check.due("pairs before the click", (count - 1) * (count - 2) / 2, bench.whole(7));
            bench.click(0, 0, 0);
            Check.due("pairs of " + count, count * (count - 1) / 2, bench.whole(7));
        }
        Check.due("delay of the first and the last", 294 - 2352, bench.delay(0, 7));
        bench.set(4, 112);
        bench.click(0, 0, 0);
        Check.due("pairs of those that noted", 21, bench.whole(7));
        bench.set(4, 334);
        bench.click(0, 0, 0);
        Check.due("one that noted makes no pair", 0, bench.whole(7));
        Check.due("it is one", 1, bench.whole(6));
    }

    private static void expectedDelays() {
        Check.says("PAIRS AND VOTES", "For a cell, the delay that is expected of a pair is the time that sound "
                + "takes on the straight way from the middle of the cell to i minus the time that it takes to j "
                + "(by the present speed; screens do not matter).");
        ClickBench bench = four();
        bench.click(50, 50, 0);
        Check.due("at 1000", 100 - 141, bench.expected(2, 0, 1));
        bench.set(0, 340);
        Check.due("each time is rounded by itself", 294 - 414, bench.expected(2, 0, 1));
        Check.due("the click was at another speed", 0, bench.votes(0));
        bench.set(0, 100);
        Check.due("at 100", 1000 - 1410, bench.expected(2, 0, 1));
        bench.set(0, 1000);
        bench.addScreen(0, 100, -1000, 3000);
        bench.addScreen(1, 100, -1000, 3000);
        Check.due("screens do not matter", -41, bench.expected(2, 0, 1));
        Check.due("nor for votes", 1, bench.votes(0));
        ClickBench far = new ClickBench();
        far.set(0, 100);
        far.addMicrophone(2500, 2500);
        far.addMicrophone(-500, -500);
        Check.due("the farthest", 10 * 3464 - 10 * 777, far.expected(0, 0, 1));
    }

    private static void votesWith(int tolerance, int clockError, int due) {
        for (int sign = -1; sign <= 1; sign += 2) {
            ClickBench bench = clicked(0, sign * clockError);
            bench.set(6, tolerance);
            String what = "votes at a tolerance of " + tolerance + " and a difference of " + sign * clockError;
            Check.due(what, due, bench.votes(0));
        }
    }

    private static void tolerance() {
        Check.says("PAIRS AND VOTES", "The pair votes for the cell if the two delays differ by at most the "
                + "tolerance (0 to 500, 20 at first).");
        Check.due("20 at first", 1, clicked(0, 20).votes(0));
        Check.due("not 21", 0, clicked(0, 21).votes(0));
        votesWith(0, 0, 1);
        votesWith(0, 1, 0);
        votesWith(1, 1, 1);
        votesWith(1, 2, 0);
        votesWith(499, 500, 0);
        votesWith(500, 500, 1);
        ClickBench bench = clicked(-250, 251);
        bench.set(6, 500);
        Check.due("501 is too much for the greatest", 0, bench.votes(0));
    }

    private static void errors() {
        Check.says("PAIRS AND VOTES", "The votes of a cell are the number of pairs that vote for it; its error "
                + "is the sum, over all pairs, of the difference of the two delays (not negative).");
        Check.due("no difference", 0, clicked(0, 0).error(0));
        Check.due("a difference above", 7, clicked(7, 0).error(0));
        Check.due("a difference below", 7, clicked(0, 7).error(0));
        Check.due("the greatest by clocks", 1000, clicked(-500, 500).error(0));
        ClickBench bench = new ClickBench();
        bench.set(0, 100);
        bench.begin(20, 20);
        for (int i = 0; i < 8; i++) {
            bench.addMicrophone(i < 4 ? -500 : 2500, -500);
            bench.setClock(i, i < 4 ? -500 : 500);
        }
        bench.set(4, 0);
        bench.click(-1000, -500, 0);
        Check.due("votes of pairs at one place, and no others", 12, bench.votes(19));
        Check.due("16 pairs by 30000 + 1000 + the way of the last column", 16 * (31000 + 25100 - 7770),
                bench.error(19));
        Check.due("it adds what does not vote, too", 28, bench.whole(7));
    }

    private static void mostVotes() {
        Check.says("PAIRS AND VOTES", "The found cell is the one with the most votes, of several the one with "
                + "the least error, of several the one with the lowest number.");
        ClickBench bench = four();
        bench.addMicrophone(50, 150);
        bench.setClock(2, -150);
        bench.set(6, 0);
        bench.click(50, 50, 0);
        Check.due("cell 2 has a smaller error", 1, bench.error(2) < bench.error(0) ? 1 : 0);
        Check.due("but no votes", 0, bench.votes(2));
        Check.due("cell 0 has one", 1, bench.votes(0));
        Check.due("and is found", 0, bench.found());
        ClickBench last = four();
        last.addMicrophone(150, 150);
        last.click(150, 150, 0);
        Check.due("the last cell has the most", 3, last.found());
    }

    private static void leastError() {
        Check.says("PAIRS AND VOTES", "The found cell is the one with the most votes, of several the one with "
                + "the least error, of several the one with the lowest number.");
        ClickBench bench = clicked(0, -60);
        bench.set(6, 60);
        Check.due("cell 0 votes by 60", 60, bench.error(0));
        Check.due("cell 2 by 1", 1, bench.error(2));
        Check.due("both have a vote", 2, bench.whole(9));
        Check.due("the one with less error is found", 2, bench.found());
        ClickBench one = clicked(0, -29);
        one.set(6, 30);
        Check.due("an error of 29", 29, one.error(0));
        Check.due("and one of 30", 30, one.error(2));
        Check.due("are told apart", 0, one.found());
        ClickBench other = clicked(0, -30);
        other.set(6, 30);
        Check.due("30 and 29", 2, other.found());
    }

    private static void lowestNumber() {
        Check.says("PAIRS AND VOTES", "The found cell is the one with the most votes, of several the one with "
                + "the least error, of several the one with the lowest number.");
        ClickBench bench = new ClickBench();
        bench.begin(20, 20);
        bench.addMicrophone(7, 7);
        bench.addMicrophone(7, 7);
        bench.click(0, 0, 0);
        Check.due("all 400 are alike", 400, bench.whole(9));
        Check.due("the lowest", 0, bench.found());
        ClickBench row = new ClickBench();
        row.begin(2, 2);
        row.set(0, 1000);
        row.addMicrophone(0, 100);
        row.addMicrophone(200, 100);
        row.click(200, 100, 0);
        Check.due("cells 1 and 3 are alike", row.error(3), row.error(1));
        Check.due("the lower one", 1, row.found());
    }

    private static void noVotes() {
        Check.says("PAIRS AND VOTES", "It can have no votes; there is none if there is no pair.");
        ClickBench bench = clicked(-500, 500);
        for (int cell = 0; cell < 4; cell++) {
            Check.due("votes", 0, bench.votes(cell));
        }
        Check.due("the least error is found", 0, bench.found());
        Check.due("the error", 1000, bench.error(0));
        Check.due("its votes", 0, bench.whole(8));
        Check.due("all cells have as many", 4, bench.whole(9));
    }

    private static void noPair() {
        Check.says("PAIRS AND VOTES", "It can have no votes; there is none if there is no pair.");
        ClickBench bench = new ClickBench();
        Check.due("no microphone", NONE, bench.found());
        bench.addMicrophone(0, 0);
        bench.addMicrophone(1000, 0);
        Check.due("no click", NONE, bench.found());
        bench.set(4, 100);
        bench.click(50, 50, 0);
        Check.due("one note", NONE, bench.found());
        Check.due("votes", 0, bench.votes(0));
        Check.due("error", 0, bench.error(0));
        bench.set(4, 0);
        bench.click(50, 50, 0);
        Check.due("two notes", 0, bench.found());
        bench.remove(0, 0);
        Check.due("one is removed", NONE, bench.found());
        bench.undo();
        Check.due("and back", 0, bench.found());
    }

    private static void blames() {
        Check.says("PAIRS AND VOTES", "The blame of a microphone is the number of its pairs that do not vote "
                + "for the found cell.");
        Check.due("a difference of the tolerance", 0, clicked(0, 20).blame(0));
        ClickBench bench = new ClickBench();
        for (int i = 0; i < 8; i++) {
            bench.addMicrophone(0, 0);
        }
        bench.click(0, 0, 0);
        Check.due("all vote", 0, bench.blame(7));
        bench.setClock(7, 21);
        bench.click(0, 0, 0);
        Check.due("none of its seven", 7, bench.blame(7));
        Check.due("one of seven", 1, bench.blame(0));
        bench.set(6, 0);
        for (int i = 0; i < 8; i++) {
            bench.setClock(i, i);
        }
        bench.click(0, 0, 0);
        for (int i = 0; i < 8; i++) {
            Check.due("the most that there can be", 7, bench.blame(i));
        }
        bench.set(6, 3);
        int[] due = {4, 3, 2, 1, 1, 2, 3, 4};
        for (int i = 0; i < 8; i++) {
            Check.due("those farther than 3", due[i], bench.blame(i));
        }
    }

    private static void suspects() {
        Check.says("PAIRS AND VOTES", "The suspect is the microphone with the greatest blame, of several the "
                + "one with the lowest number; there is none if all blames are 0.");
        ClickBench bench = new ClickBench();
        for (int i = 0; i < 8; i++) {
            bench.addMicrophone(0, 0);
        }
        bench.click(0, 0, 0);
        Check.due("all blames are 0", NONE, bench.suspect());
        bench.setClock(7, 500);
        bench.click(0, 0, 0);
        Check.due("the last one", 7, bench.suspect());
        bench.setClock(2, -500);
        bench.click(0, 0, 0);
        Check.due("two with a blame of 7", bench.blame(7), bench.blame(2));
        Check.due("the lower one", 2, bench.suspect());
        for (int i = 0; i < 8; i++) {
            bench.setClock(i, 60 * i);
        }
        bench.click(0, 0, 0);
        Check.due("all alike", 0, bench.suspect());
        ClickBench pair = clicked(0, 0);
        Check.due("a pair that votes", NONE, pair.suspect());
        ClickBench odd = clicked(-500, 500);
        Check.due("a blame of 1 each", 0, odd.suspect());
    }

    private static void delayRefusals() {
        Check.says(16, "Returns the note of i minus that of j; NONE if one of them noted nothing.");
        ClickBench bench = four();
        Check.due("both noted nothing", NONE, bench.delay(0, 1));
        bench.click(50, 50, 0);
        Check.due("delay", -100, bench.delay(0, 1));
        Check.due("the other way", 100, bench.delay(1, 0));
        bench.set(4, 1000);
        bench.click(50, 50, 0);
        Check.due("j noted nothing", NONE, bench.delay(0, 1));
        Check.due("i noted nothing", NONE, bench.delay(1, 0));
        Check.says(16, "Throws `IndexOutOfBoundsException` if there is no microphone i or j");
        for (int wrong : WRONG_OF_TWO) {
            Check.refused(bench, "i of " + wrong, Check.INDEX, () -> bench.delay(wrong, 0));
            Check.refused(bench, "j of " + wrong, Check.INDEX, () -> bench.delay(0, wrong));
            Check.refused(bench, "both " + wrong, Check.INDEX, () -> bench.delay(wrong, wrong));
        }
        Check.says(16, "Throws `IllegalArgumentException` if both are the same");
        Check.refused(bench, "delay(0, 0)", Check.ARGUMENT, () -> bench.delay(0, 0));
        Check.refused(bench, "delay(1, 1)", Check.ARGUMENT, () -> bench.delay(1, 1));
    }

    private static void expectedRefusals() {
        Check.says(17, "Throws `IndexOutOfBoundsException` if there is no such cell, or no microphone i or j");
        ClickBench bench = four();
        for (int wrong : new int[] {LEAST, -1, 4, 79, 400, GREATEST}) {
            Check.refused(bench, "cell " + wrong, Check.INDEX, () -> bench.expected(wrong, 0, 1));
            Check.refused(bench, "and both the same", Check.INDEX, () -> bench.expected(wrong, 0, 0));
        }
        for (int wrong : WRONG_OF_TWO) {
            Check.refused(bench, "i of " + wrong, Check.INDEX, () -> bench.expected(0, wrong, 0));
            Check.refused(bench, "j of " + wrong, Check.INDEX, () -> bench.expected(0, 0, wrong));
            Check.refused(bench, "both " + wrong, Check.INDEX, () -> bench.expected(0, wrong, wrong));
        }
        Check.says(17, "Throws `IllegalArgumentException` if both are the same");
        Check.refused(bench, "expected(0, 0, 0)", Check.ARGUMENT, () -> bench.expected(0, 0, 0));
        Check.refused(bench, "expected(3, 1, 1)", Check.ARGUMENT, () -> bench.expected(3, 1, 1));
        Check.says(17, "Returns the delay that is expected for a cell.");
        Check.due("the first cell, without a click", -100, bench.expected(0, 0, 1));
        Check.due("the last cell, without a click", 41, bench.expected(3, 0, 1));
    }

    private static void cellRefusals() {
        ClickBench bench = clicked(0, 0);
        Check.says(18, "Throws `IndexOutOfBoundsException` if there is no such cell");
        for (int wrong : new int[] {LEAST, -1, 4, 79, 400, GREATEST}) {
            Check.refused(bench, "votes(" + wrong + ")", Check.INDEX, () -> bench.votes(wrong));
        }
        Check.says(19, "Throws `IndexOutOfBoundsException` if there is no such cell");
        for (int wrong : new int[] {LEAST, -1, 4, 79, 400, GREATEST}) {
            Check.refused(bench, "error(" + wrong + ")", Check.INDEX, () -> bench.error(wrong));
        }
        Check.says(18, "Returns the number of pairs that vote for it.");
        Check.due("the first cell", 1, bench.votes(0));
        Check.due("the last cell", 0, bench.votes(3));
        Check.says(19, "Returns the error.");
        Check.due("the first cell", 0, bench.error(0));
        Check.due("the last cell", 141, bench.error(3));
        bench.begin(20, 20);
        Check.due("the last cell of the greatest field", 0, bench.error(399));
        Check.throwing("and none behind it", Check.INDEX, () -> bench.error(400));
    }

    private static void foundAnswers() {
        Check.says(20, "Returns the cell; NONE if there is none.");
        Check.due("a new object", -1000000000, new ClickBench().found());
        ClickBench bench = new ClickBench();
        bench.begin(20, 20);
        bench.addMicrophone(1950, 1950);
        bench.addMicrophone(50, 1950);
        bench.addMicrophone(1950, 50);
        bench.set(6, 0);
        bench.click(1950, 1950, 0);
        Check.due("the last cell", 399, bench.found());
        Check.due("its votes", 3, bench.votes(399));
        Check.due("its error", 0, bench.error(399));
        bench.click(50, 50, 0);
        Check.due("the pair of those as far votes for it", 1, bench.votes(399));
        Check.due("the other two are off by a way of 2687 each", 2 * 7902, bench.error(399));
        Check.due("the first cell", 0, bench.found());
        bench.begin(20, 20);
        Check.due("no pair again", -1000000000, bench.found());
    }

    private static void middles() {
        Check.says(21, "Returns the sum of their rows or columns, converted to double, divided by their number, "
                + "converted to double; -1.0 if there is no found cell.");
        ClickBench bench = new ClickBench();
        Check.due("no pair: row", -1.0, bench.middle(true));
        Check.due("no pair: column", -1.0, bench.middle(false));
        bench.begin(20, 2);
        bench.addMicrophone(7, 7);
        Check.due("one microphone", -1.0, bench.middle(true));
        bench.addMicrophone(7, 7);
        bench.click(0, 0, 0);
        Check.due("all 40 cells: row", 0.5, bench.middle(true));
        Check.due("all 40 cells: column", 9.5, bench.middle(false));
        bench.setClock(0, 500);
        bench.click(0, 0, 0);
        Check.due("all 40 without votes: row", 0.5, bench.middle(true));
        Check.due("all 40 without votes: column", 9.5, bench.middle(false));
        ClickBench corner = clicked(0, 0);
        Check.due("cell 0: row", 0.0, corner.middle(true));
        Check.due("cell 0: column", 0.0, corner.middle(false));
        corner.set(6, 141);
        Check.due("cells 0, 2 and 3: row", 2.0 / 3.0, corner.middle(true));
        Check.due("cells 0, 2 and 3: column", 1.0 / 3.0, corner.middle(false));
    }

    private static void blameAnswers() {
        Check.says(22, "Returns the blame (0 if it noted nothing); NONE if there is no found cell.");
        ClickBench bench = four();
        Check.due("no found cell", NONE, bench.blame(0));
        bench.setClock(0, 500);
        bench.setClock(1, -500);
        bench.click(50, 50, 0);
        bench.addMicrophone(0, 0);
        Check.due("one that noted nothing", 0, bench.blame(2));
        Check.due("one that did", 1, bench.blame(1));
        bench.remove(0, 0);
        Check.due("no pair", NONE, bench.blame(0));
        Check.due("not 0, if there is no found cell", NONE, bench.blame(1));
        Check.says(22, "Throws `IndexOutOfBoundsException` if there is no such microphone");
        for (int wrong : WRONG_OF_TWO) {
            Check.refused(bench, "blame(" + wrong + ")", Check.INDEX, () -> bench.blame(wrong));
        }
        ClickBench found = clicked(0, 0);
        for (int wrong : WRONG_OF_TWO) {
            Check.refused(found, "blame(" + wrong + ")", Check.INDEX, () -> found.blame(wrong));
        }
    }

    private static void suspectAnswers() {
        Check.says(23, "Returns the microphone; NONE if there is none.");
        Check.due("a new object", -1000000000, new ClickBench().suspect());
        Check.due("no blame", -1000000000, clicked(0, 20).suspect());
        ClickBench bench = four();
        bench.addMicrophone(50, 150);
        bench.setClock(1, 200);
        bench.click(50, 50, 0);
        Check.due("the one whose clock goes wrong", 1, bench.suspect());
        bench.set(6, 500);
        Check.due("none behind a tolerance", -1000000000, bench.suspect());
    }

    private static void without() {
        Check.says(24, "Returns the cell; NONE if there were none.");
        ClickBench bench = new ClickBench();
        bench.addMicrophone(0, 0);
        Check.due("no click", NONE, bench.foundWithout(0));
        bench.addMicrophone(1000, 0);
        bench.click(0, 0, 0);
        Check.due("one of two", NONE, bench.foundWithout(0));
        Check.due("the other of two", NONE, bench.foundWithout(1));
        bench.addMicrophone(0, 800);
        Check.due("one that noted nothing", bench.found(), bench.foundWithout(2));
        Check.due("one of two that noted", NONE, bench.foundWithout(1));
        ClickBench three = four();
        three.addMicrophone(50, 150);
        three.setClock(0, 241);
        three.set(6, 0);
        three.click(50, 50, 0);
        Check.due("without the first", 0, three.foundWithout(0));
        Check.due("without the second", 2, three.foundWithout(1));
        Check.due("without the last", 1, three.foundWithout(2));
        Check.due("its notes are as before", 241, three.note(0));
        Check.due("its pairs, too", 3, three.whole(7));
        Check.says(24, "Throws `IndexOutOfBoundsException` if there is no such microphone");
        for (int wrong : new int[] {LEAST, -1, 3, 8, GREATEST}) {
            Check.refused(three, "foundWithout(" + wrong + ")", Check.INDEX, () -> three.foundWithout(wrong));
        }
        ClickBench empty = new ClickBench();
        Check.refused(empty, "no microphone", Check.INDEX, () -> empty.foundWithout(0));
        Check.refused(empty, "no microphone -1", Check.INDEX, () -> empty.foundWithout(-1));
    }

    private static final String WHOLE = "`what`: 0 C, 1 R, 2 microphones, 3 walls, 4 screens, 5 clicks since "
            + "begin() (with those of calibrate()), 6 microphones that noted something of the latest click, 7 "
            + "pairs, 8 votes of the found cell, 9 cells with as many votes as the found cell (8, 9: 0 if there "
            + "is none), 10 s";

    private static void wholes() {
        Check.says(25, WHOLE);
        ClickBench bench = new ClickBench();
        bench.addMicrophone(0, 0);
        bench.click(0, 0, 0);
        Check.due("no found cell: votes", 0, bench.whole(8));
        Check.due("no found cell: cells", 0, bench.whole(9));
        bench.calibrate(0, 0, 0);
        Check.due("a click and a calibration", 2, bench.whole(5));
        bench.begin(2, 2);
        Check.due("since begin()", 0, bench.whole(5));
        for (int i = 0; i < 8; i++) {
            bench.addMicrophone(0, 0);
        }
        Check.throwing("a refused click", Check.ARGUMENT, () -> bench.click(0, 0, -1));
        Check.due("is not counted", 0, bench.whole(5));
        bench.set(2, 100);
        bench.click(0, 0, 0);
        Check.due("one that nobody notes is", 1, bench.whole(5));
        Check.due("none of the latest click", 0, bench.whole(6));
        bench.set(2, 0);
        bench.click(0, 0, 0);
        Check.due("all of the latest click", 8, bench.whole(6));
        Check.due("pairs", 28, bench.whole(7));
        Check.due("votes", 28, bench.whole(8));
        Check.due("cells", 4, bench.whole(9));
        bench.setS(GREATEST);
        Check.due("the greatest s", GREATEST, bench.whole(10));
        bench.undo();
        bench.undo();
        Check.due("a click that is undone is not counted", 1, bench.whole(5));
    }

    private static void wholeRefusals() {
        Check.says(25, "Throws `IllegalArgumentException` if what is out of range");
        ClickBench bench = clicked(0, 0);
        for (int wrong : new int[] {LEAST, -1, 11, 12, GREATEST}) {
            Check.refused(bench, "whole(" + wrong + ")", Check.ARGUMENT, () -> bench.whole(wrong));
        }
        Check.due("the first", 2, bench.whole(0));
        Check.due("the last, behind two draws", 377401575, bench.whole(10));
    }

    /** Two microphones, one wall and three screens, with other values each. */
    private static ClickBench full() {
        ClickBench bench = new ClickBench();
        bench.addMicrophone(11, 12);
        bench.addMicrophone(21, 22);
        bench.setClock(1, 23);
        bench.calibrate(21, 22, 0);
        bench.addWall(1, 32, 33);
        for (int i = 0; i < 3; i++) {
            bench.addScreen(1, 42 + 10 * i, 43 + 10 * i, 44 + 10 * i);
        }
        return bench;
    }

    private static void parts() {
        Check.says(26, "`what`: of a microphone: 0 x, 1 y, 2 clock error, 3 offset; of a wall: 0 axis, 1 c, 2 "
                + "loss; of a screen: 0 axis, 1 c, 2 a, 3 b; of a setting: 0");
        ClickBench bench = full();
        int[][] microphones = {{11, 12, 0, 0}, {21, 22, 23, 23}};
        for (int what = 0; what < 4; what++) {
            Check.due("microphone 0, " + what, microphones[0][what], bench.part(0, 0, what));
            Check.due("microphone 1, " + what, microphones[1][what], bench.part(0, 1, what));
            Check.due("screen 0, " + what, what == 0 ? 1 : 41 + what, bench.part(2, 0, what));
            Check.due("screen 2, " + what, what == 0 ? 1 : 61 + what, bench.part(2, 2, what));
        }
        for (int what = 0; what < 3; what++) {
            Check.due("wall 0, " + what, what == 0 ? 1 : 31 + what, bench.part(1, 0, what));
        }
        Check.says(26, "`index`: its number; for a setting 0 to 6");
        int[] settings = {340, 1, 0, 0, 10, 0, 20};
        for (int what = 0; what < 7; what++) {
            Check.due("setting " + what, settings[what], bench.part(3, what, 0));
        }
    }

    private static void partRefusals() {
        ClickBench bench = full();
        Check.says(26, "Throws `IllegalArgumentException` if kind is out of range, or what is out of range for "
                + "this kind");
        for (int wrong : new int[] {LEAST, -1, 4, 5, GREATEST}) {
            Check.refused(bench, "kind " + wrong, Check.ARGUMENT, () -> bench.part(wrong, 0, 0));
            Check.refused(bench, "and no such number", Check.ARGUMENT, () -> bench.part(wrong, 99, 0));
        }
        int[] values = {4, 3, 4, 1};
        int[] counts = {2, 1, 3, 7};
        for (int kind = 0; kind < 4; kind++) {
            int k = kind;
            for (int wrong : new int[] {LEAST, -1, values[kind], values[kind] + 1, GREATEST}) {
                Check.refused(bench, "what " + wrong, Check.ARGUMENT, () -> bench.part(k, 0, wrong));
                Check.refused(bench, "and no such number", Check.ARGUMENT, () -> bench.part(k, counts[k], wrong));
            }
        }
        Check.says(26, "Throws `IndexOutOfBoundsException` if there is nothing with this number");
        for (int kind = 0; kind < 4; kind++) {
            int k = kind;
            for (int wrong : new int[] {LEAST, -1, counts[kind], counts[kind] + 1, GREATEST}) {
                Check.refused(bench, "number " + wrong, Check.INDEX, () -> bench.part(k, wrong, values[k] - 1));
            }
        }
        ClickBench empty = new ClickBench();
        for (int kind = 0; kind < 3; kind++) {
            int k = kind;
            Check.refused(empty, "a new object, kind " + k, Check.INDEX, () -> empty.part(k, 0, 0));
        }
    }
}
