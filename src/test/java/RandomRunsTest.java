import java.util.Arrays;
import java.util.Random;

/** Runs of drawn calls, the same ones every time, on a bench and on the model: all answers must be alike. */
public final class RandomRunsTest {
    private static final int RUNS = 300;
    private static final int CALLS = 512;
    private static final int[] ODD = {Integer.MIN_VALUE, -1000000000, -1, 0, 1, 9, 400, 100001, Integer.MAX_VALUE};

    private final Random random;
    private final int run;
    private final ClickBench bench = new ClickBench();
    private final Model model = new Model();
    private int calls = 0;

    private RandomRunsTest(int run) {
        this.run = run;
        this.random = new Random(run);
    }

    public static void main(String[] args) {
        for (int run = 0; run < RUNS; run++) {
            new RandomRunsTest(run).play();
        }
        Check.finish();
    }

    private void play() {
        boolean small = random.nextInt(3) > 0;
        if (small) {
            both("begin", between(2, 6), between(2, 6));
        }
        while (calls < CALLS) {
            step(random.nextInt(100));
        }
    }

    private void step(int dice) {
        if (dice < 34) {
            change();
        } else if (dice < 44) {
            both(random.nextInt(3) > 0 ? "click" : "calibrate", clickPlace(), clickPlace(), odd(between(0, 100000)));
        } else if (dice < 50) {
            typeCommands();
        } else if (dice < 90) {
            ask();
        } else if (dice < 94) {
            both("undo");
        } else {
            both("digest");
        }
    }

    private void change() {
        switch (random.nextInt(16)) {
            case 0:
                if (random.nextInt(8) == 0) {
                    both("begin", odd(between(1, 8)), odd(between(2, 8)));
                }
                break;
            case 1: case 2: case 3: case 4:
                both("addMicrophone", odd(between(-500, 2500)), odd(between(0, 600)));
                break;
            case 5:
                both("setClock", microphone(), odd(between(-500, 500)));
                break;
            case 6: case 7:
                both("addWall", odd(between(0, 1)), odd(between(-300, 1500)), odd(between(0, 100)));
                break;
            case 8: case 9:
                int a = between(-200, 800);
                both("addScreen", odd(between(0, 1)), odd(between(-200, 800)), odd(a), odd(a + between(0, 500)));
                break;
            case 10:
                both("remove", odd(between(0, 2)), odd(between(0, 3)));
                break;
            case 11:
                both("setS", odd(random.nextInt() & 0x7fffffff));
                break;
            default:
                set();
        }
    }

    private void set() {
        int what = odd(between(0, 6));
        int value;
        switch (what) {
            case 0: value = between(90, 1010); break;
            case 1: value = between(1, 2); break;
            case 2: value = random.nextInt(2) * between(0, 101); break;
            case 3: value = random.nextInt(2) * between(0, 51); break;
            case 4: value = between(0, random.nextInt(6) == 0 ? 1001 : 80); break;
            case 5: value = between(0, 1); break;
            default: value = between(0, random.nextInt(3) == 0 ? 501 : 60);
        }
        both("set", what, odd(value));
    }

    private void ask() {
        switch (random.nextInt(18)) {
            case 0: both("note", microphone()); break;
            case 1: both("heard", microphone(), odd(between(0, 3))); break;
            case 2: both("arrivals", clickPlace(), clickPlace(), microphone()); break;
            case 3: case 4:
                both("arrival", clickPlace(), clickPlace(), microphone(), odd(between(0, 17)), odd(between(0, 3)));
                break;
            case 5: both("delay", microphone(), microphone()); break;
            case 6: both("expected", cell(), microphone(), microphone()); break;
            case 7: both("votes", cell()); break;
            case 8: both("error", cell()); break;
            case 9: both("found"); break;
            case 10: both("middle", random.nextInt(2)); break;
            case 11: both("blame", microphone()); break;
            case 12: both("suspect"); break;
            case 13: both("foundWithout", microphone()); break;
            case 14: both("whole", odd(between(0, 10))); break;
            case 15: case 16: both("part", odd(between(0, 3)), odd(between(0, 6)), odd(between(0, 3))); break;
            default: both("stop");
        }
    }

    private void typeCommands() {
        if (random.nextInt(3) > 0) {
            both("clearCommands");
        }
        StringBuilder line = new StringBuilder();
        int commands = random.nextInt(5);
        for (int i = 0; i < commands; i++) {
            line.append(spaces(0)).append(command()).append(spaces(0)).append(';');
        }
        line.append(spaces(0));
        if (line.length() > 0 && random.nextInt(3) == 0) {
            spoil(line);
        }
        for (int i = 0; i < line.length(); i++) {
            both("type", line.charAt(i));
        }
        both("runCommands");
        both("stop");
    }

    private String command() {
        int place = between(0, 700);
        switch (random.nextInt(9)) {
            case 0: return words("field", between(1, 6), between(2, 6));
            case 1: case 2: return words("mic", place, between(0, 600));
            case 3: return words("wall", between(0, 1), place, between(0, 101));
            case 4: return words("screen", between(0, 1), place, between(0, 400), between(300, 700));
            case 5: return words("set", between(0, 7), between(0, 120));
            case 6: return words("known", place, between(0, 3100), between(0, 99999));
            default: return words("click", place, between(0, 600), between(0, 99999));
        }
    }

    private String words(String word, int... numbers) {
        StringBuilder line = new StringBuilder(word);
        for (int number : numbers) {
            line.append(spaces(1)).append(random.nextInt(8) == 0 ? String.format("%05d", number) : "" + number);
        }
        return line.toString();
    }

    private String spaces(int least) {
        return " ".repeat(least + (random.nextInt(5) == 0 ? random.nextInt(3) : 0));
    }

    private void spoil(StringBuilder line) {
        int at = random.nextInt(line.length());
        String bytes = " ;0123456789abcdefghijklmnopqrstuvwxyz-Z{`/:\u0000\u007f";
        char one = bytes.charAt(random.nextInt(bytes.length()));
        switch (random.nextInt(4)) {
            case 0: line.setCharAt(at, one); break;
            case 1: line.insert(at, one); break;
            case 2: line.deleteCharAt(at); break;
            default: line.setLength(at);
        }
    }

    private int between(int least, int most) {
        return least + random.nextInt(most - least + 1);
    }

    /** Now and then another number than the one that was drawn. */
    private int odd(int value) {
        return random.nextInt(60) == 0 ? ODD[random.nextInt(ODD.length)] : value;
    }

    private int microphone() {
        return odd(between(0, random.nextInt(4) == 0 ? 8 : 3));
    }

    private int clickPlace() {
        return odd(random.nextInt(3) == 0 ? between(-1000, 3000) : between(0, 600));
    }

    private int cell() {
        return odd(between(0, random.nextInt(3) == 0 ? 80 : 30));
    }

    private void both(String name, int... a) {
        if (calls >= CALLS) {
            return;
        }
        calls++;
        String due;
        String got;
        try {
            due = "" + model.call(name, a);
        } catch (RuntimeException e) {
            due = e.getClass().getSimpleName();
        }
        try {
            got = "" + ask(name, a);
        } catch (RuntimeException e) {
            got = e.getClass().getSimpleName();
        }
        Check.due("run " + run + ": " + name + Arrays.toString(a), due, got);
    }

    private long ask(String name, int[] a) {
        switch (name) {
            case "begin": return bench.begin(a[0], a[1]);
            case "addMicrophone": return bench.addMicrophone(a[0], a[1]);
            case "setClock": return bench.setClock(a[0], a[1]);
            case "addWall": return bench.addWall(a[0], a[1], a[2]);
            case "addScreen": return bench.addScreen(a[0], a[1], a[2], a[3]);
            case "remove": return bench.remove(a[0], a[1]);
            case "set": return bench.set(a[0], a[1]);
            case "setS": return bench.setS(a[0]);
            case "click": return bench.click(a[0], a[1], a[2]);
            case "calibrate": return bench.calibrate(a[0], a[1], a[2]);
            case "note": return bench.note(a[0]);
            case "heard": return bench.heard(a[0], a[1]);
            case "arrivals": return bench.arrivals(a[0], a[1], a[2]);
            case "arrival": return bench.arrival(a[0], a[1], a[2], a[3], a[4]);
            case "delay": return bench.delay(a[0], a[1]);
            case "expected": return bench.expected(a[0], a[1], a[2]);
            case "votes": return bench.votes(a[0]);
            case "error": return bench.error(a[0]);
            case "found": return bench.found();
            case "middle": return Double.doubleToLongBits(bench.middle(a[0] != 0));
            case "blame": return bench.blame(a[0]);
            case "suspect": return bench.suspect();
            case "foundWithout": return bench.foundWithout(a[0]);
            case "whole": return bench.whole(a[0]);
            case "part": return bench.part(a[0], a[1], a[2]);
            case "type": return bench.type(a[0]);
            case "clearCommands": return bench.clearCommands();
            case "runCommands": return bench.runCommands();
            case "stop": return bench.stop();
            case "undo": return bench.undo();
            case "digest": return bench.digest();
            default: throw new UnsupportedOperationException(name);
        }
    }
}
