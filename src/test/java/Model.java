import java.math.BigInteger;
import java.util.ArrayDeque;
import java.util.ArrayList;
import java.util.Arrays;
import java.util.Deque;
import java.util.List;
import java.util.Map;

/**
 * The document again, written for comparison and not for use: whole copies of the state,
 * fractions of big numbers, a reader by recursive descent, and nothing that is kept from call to call.
 */
final class Model {
    static final int NONE = -1000000000;

    private static final int[][] RANGES = {{100, 1000}, {1, 2}, {0, 100}, {0, 50}, {0, 1000}, {0, 1}, {0, 500}};
    private static final Map<String, Integer> WORDS = Map.of(
            "field", 2, "mic", 2, "wall", 3, "screen", 4, "set", 2, "click", 3, "known", 3);

    /** What a microphone is and has noted. */
    static final class Mic {
        int x, y, clock, offset;
        boolean noted;
        int note, kind, strength, first, second;

        Mic copy() {
            Mic m = new Mic();
            m.x = x;
            m.y = y;
            m.clock = clock;
            m.offset = offset;
            m.noted = noted;
            m.note = note;
            m.kind = kind;
            m.strength = strength;
            m.first = first;
            m.second = second;
            return m;
        }
    }

    static final class State {
        int columns = 10, rows = 8, clicks;
        long s = 1;
        List<Mic> mics = new ArrayList<>();
        List<int[]> walls = new ArrayList<>();
        List<int[]> screens = new ArrayList<>();
        int[] settings = {340, 1, 0, 0, 10, 0, 20};

        State copy() {
            State c = new State();
            c.columns = columns;
            c.rows = rows;
            c.clicks = clicks;
            c.s = s;
            for (Mic m : mics) {
                c.mics.add(m.copy());
            }
            c.walls.addAll(walls);
            c.screens.addAll(screens);
            c.settings = settings.clone();
            return c;
        }
    }

    /** An arrival without chance. */
    record Arrival(int kind, int way, int time, int strength, int first, int second) {
    }

    private State now = new State();
    private final Deque<State> undo = new ArrayDeque<>();
    private final StringBuilder text = new StringBuilder();
    private int stop = 0;

    // ---- exceptions

    private static void index(boolean good) {
        if (!good) {
            throw new IndexOutOfBoundsException();
        }
    }

    private static void argument(boolean good) {
        if (!good) {
            throw new IllegalArgumentException();
        }
    }

    private static void state(boolean good) {
        if (!good) {
            throw new IllegalStateException();
        }
    }

    private static boolean in(int value, int least, int most) {
        return least <= value && value <= most;
    }

    private boolean isMic(int m) {
        return in(m, 0, now.mics.size() - 1);
    }

    private boolean isCell(int c) {
        return in(c, 0, now.columns * now.rows - 1);
    }

    /** Runs a change on a copy, so that an exception leaves all as it was. */
    private int change(java.util.function.ToIntFunction<State> what) {
        State next = now.copy();
        int answer = what.applyAsInt(next);
        undo.addLast(now);
        if (undo.size() > 4) {
            undo.removeFirst();
        }
        now = next;
        return answer;
    }

    // ---- changes of a state

    private static int begin(State s, int c, int r) {
        argument(in(c, 2, 20) && in(r, 2, 20));
        int before = s.clicks;
        s.columns = c;
        s.rows = r;
        s.clicks = 0;
        s.mics.clear();
        s.walls.clear();
        s.screens.clear();
        return before;
    }

    private static int mic(State s, int x, int y) {
        argument(in(x, -500, 2500) && in(y, -500, 2500));
        state(s.mics.size() < 8);
        Mic m = new Mic();
        m.x = x;
        m.y = y;
        s.mics.add(m);
        return s.mics.size() - 1;
    }

    private static int wall(State s, int axis, int c, int loss) {
        argument(in(axis, 0, 1) && in(c, -1000, 3000) && in(loss, 0, 100));
        state(s.walls.size() < 4);
        s.walls.add(new int[] {axis, c, loss});
        return s.walls.size() - 1;
    }

    private static int screen(State s, int axis, int c, int a, int b) {
        argument(in(axis, 0, 1) && in(c, -1000, 3000) && in(a, -1000, 3000) && in(b, -1000, 3000) && a < b);
        state(s.screens.size() < 4);
        s.screens.add(new int[] {axis, c, a, b});
        return s.screens.size() - 1;
    }

    private static int setting(State s, int what, int value) {
        argument(in(what, 0, 6));
        argument(in(value, RANGES[what][0], RANGES[what][1]));
        int before = s.settings[what];
        s.settings[what] = value;
        return before;
    }

    private static void checkClick(State s, int x, int y, int time) {
        argument(in(x, -1000, 3000) && in(y, -1000, 3000) && in(time, 0, 100000));
        state(!s.mics.isEmpty());
    }

    private static int click(State s, int x, int y, int time) {
        checkClick(s, x, y, time);
        int noted = 0;
        for (Mic m : s.mics) {
            hear(s, m, x, y, time);
            noted += m.noted ? 1 : 0;
        }
        s.clicks++;
        return noted;
    }

    private static int known(State s, int x, int y, int time) {
        checkClick(s, x, y, time);
        int[] before = s.mics.stream().mapToInt(m -> m.offset).toArray();
        s.mics.forEach(m -> m.offset = 0);
        click(s, x, y, time);
        int changed = 0;
        for (int i = 0; i < before.length; i++) {
            Mic m = s.mics.get(i);
            if (m.noted) {
                m.offset = m.note - time - travel(s, way(x, y, m.x, m.y));
                m.note -= m.offset;
            }
            changed += m.offset != before[i] ? 1 : 0;
        }
        return changed;
    }

    // ---- sound

    private static int way(int x, int y, int u, int v) {
        BigInteger dx = BigInteger.valueOf(x - u);
        BigInteger dy = BigInteger.valueOf(y - v);
        return dx.multiply(dx).add(dy.multiply(dy)).sqrt().intValueExact();
    }

    private static int travel(State s, int way) {
        return Math.floorDiv(way * 1000, s.settings[0]);
    }

    private static boolean taken(int[] screen, int x, int y, int u, int v) {
        if (screen[0] == 1) {
            return taken(new int[] {0, screen[1], screen[2], screen[3]}, y, x, v, u);
        }
        int c = screen[1];
        if (!(x < c && c < u || u < c && c < x)) {
            return false;
        }
        // y at x = c is y + (v - y) * (c - x) / (u - x); its floor and its ceiling tell enough of it.
        long above = (long) (v - y) * (c - x);
        long floor = y + Math.floorDiv(above, (long) (u - x));
        long ceiling = y - Math.floorDiv(-above, (long) (u - x));
        return floor >= screen[2] && ceiling <= screen[3];
    }

    private static int[] mirror(int[] wall, int[] place) {
        int[] mirrored = place.clone();
        mirrored[wall[0]] = 2 * wall[1] - place[wall[0]];
        return mirrored;
    }

    private static Arrival from(State s, int[] place, Mic m, int... walls) {
        int way = way(place[0], place[1], m.x, m.y);
        int strength = 100000 / (way + 100);
        for (int wall : walls) {
            strength = strength * (100 - s.walls.get(wall)[2]) / 100;
        }
        int first = walls.length > 0 ? walls[0] : NONE;
        int second = walls.length > 1 ? walls[1] : NONE;
        return new Arrival(walls.length, way, travel(s, way), strength, first, second);
    }

    private static List<Arrival> all(State s, int x, int y, Mic m) {
        List<Arrival> all = new ArrayList<>();
        int[] place = {x, y};
        if (s.screens.stream().noneMatch(screen -> taken(screen, x, y, m.x, m.y))) {
            all.add(from(s, place, m));
        }
        for (int i = 0; i < s.walls.size(); i++) {
            all.add(from(s, mirror(s.walls.get(i), place), m, i));
        }
        for (int i = 0; s.settings[1] == 2 && i < s.walls.size(); i++) {
            for (int j = 0; j < s.walls.size(); j++) {
                if (i != j) {
                    all.add(from(s, mirror(s.walls.get(j), mirror(s.walls.get(i), place)), m, i, j));
                }
            }
        }
        return all;
    }

    private static int draw(State s, int below) {
        BigInteger next = BigInteger.valueOf(1103515245L).multiply(BigInteger.valueOf(s.s));
        s.s = next.add(BigInteger.valueOf(12345)).mod(BigInteger.valueOf(2147483648L)).longValueExact();
        return (int) (s.s / 65536 % below);
    }

    private static void hear(State s, Mic m, int x, int y, int time) {
        List<Arrival> kept = new ArrayList<>();
        List<Integer> times = new ArrayList<>();
        for (Arrival a : all(s, x, y, m)) {
            if (draw(s, 100) < s.settings[2]) {
                continue;
            }
            int moved = s.settings[3] == 0 ? 0 : draw(s, 2 * s.settings[3] + 1) - s.settings[3];
            if (a.strength >= s.settings[4]) {
                kept.add(a);
                times.add(time + a.time + m.clock + moved);
            }
        }
        m.noted = !kept.isEmpty();
        if (!m.noted) {
            return;
        }
        int best = 0;
        for (int i = kept.size() - 1; i >= 0; i--) {
            boolean asGood = s.settings[5] == 0
                    ? times.get(i) <= times.get(best) : kept.get(i).strength >= kept.get(best).strength;
            if (i == kept.size() - 1 || asGood) {
                best = i;
            }
        }
        Arrival a = kept.get(best);
        m.note = times.get(best) - m.offset;
        m.kind = a.kind;
        m.strength = a.strength;
        m.first = a.first;
        m.second = a.second;
    }

    // ---- pairs and cells

    private static List<int[]> pairs(State s, int without) {
        List<int[]> pairs = new ArrayList<>();
        for (int i = 0; i < s.mics.size(); i++) {
            for (int j = i + 1; j < s.mics.size(); j++) {
                if (i != without && j != without && s.mics.get(i).noted && s.mics.get(j).noted) {
                    pairs.add(new int[] {i, j});
                }
            }
        }
        return pairs;
    }

    private static int expected(State s, int cell, int i, int j) {
        int x = 100 * (cell % s.columns) + 50;
        int y = 100 * (cell / s.columns) + 50;
        Mic a = s.mics.get(i);
        Mic b = s.mics.get(j);
        return travel(s, way(x, y, a.x, a.y)) - travel(s, way(x, y, b.x, b.y));
    }

    private static int difference(State s, int cell, int[] pair) {
        int delay = s.mics.get(pair[0]).note - s.mics.get(pair[1]).note;
        return Math.abs(delay - expected(s, cell, pair[0], pair[1]));
    }

    private static int votes(State s, int cell, List<int[]> pairs) {
        return (int) pairs.stream().filter(p -> difference(s, cell, p) <= s.settings[6]).count();
    }

    private static int error(State s, int cell, List<int[]> pairs) {
        return pairs.stream().mapToInt(p -> difference(s, cell, p)).sum();
    }

    private static int found(State s, List<int[]> pairs) {
        if (pairs.isEmpty()) {
            return NONE;
        }
        List<int[]> cells = new ArrayList<>();
        for (int cell = 0; cell < s.columns * s.rows; cell++) {
            cells.add(new int[] {-votes(s, cell, pairs), error(s, cell, pairs), cell});
        }
        return cells.stream().min(Arrays::compare).orElseThrow()[2];
    }

    private static int blame(State s, int found, int m) {
        if (found == NONE) {
            return NONE;
        }
        return (int) pairs(s, -1).stream()
                .filter(p -> (p[0] == m || p[1] == m) && difference(s, found, p) > s.settings[6]).count();
    }

    private static List<Integer> tied(State s, int found) {
        List<Integer> tied = new ArrayList<>();
        List<int[]> pairs = pairs(s, -1);
        for (int cell = 0; found != NONE && cell < s.columns * s.rows; cell++) {
            if (votes(s, cell, pairs) == votes(s, found, pairs)) {
                tied.add(cell);
            }
        }
        return tied;
    }

    // ---- command texts

    /** A command that was read. */
    record Order(String word, int[] numbers) {
    }

    /** Reads a text from front to back; fault is -1 if it has none. */
    static final class Reader {
        final String text;
        final List<Order> orders = new ArrayList<>();
        int at = 0;
        int fault = -1;

        Reader(String text) {
            this.text = text;
            skipSpaces();
            while (fault < 0 && at < text.length()) {
                order();
                skipSpaces();
            }
        }

        private char here() {
            return at < text.length() ? text.charAt(at) : '\uffff';
        }

        private void skipSpaces() {
            while (here() == ' ') {
                at++;
            }
        }

        private void order() {
            int start = at;
            while (here() >= 'a' && here() <= 'z') {
                at++;
            }
            String word = text.substring(start, at);
            if (!WORDS.containsKey(word)) {
                fault = start;
                return;
            }
            int[] numbers = new int[4];
            for (int i = 0; i < WORDS.get(word) && fault < 0; i++) {
                numbers[i] = number();
            }
            if (fault >= 0) {
                return;
            }
            skipSpaces();
            if (here() != ';') {
                fault = at;
                return;
            }
            at++;
            orders.add(new Order(word, numbers));
        }

        private int number() {
            if (here() != ' ') {
                fault = at;
                return 0;
            }
            skipSpaces();
            int start = at;
            while (at - start < 5 && here() >= '0' && here() <= '9') {
                at++;
            }
            if (at == start) {
                fault = at;
                return 0;
            }
            return Integer.parseInt(text.substring(start, at));
        }
    }

    private static void carryOut(State s, Order o) {
        int[] n = o.numbers;
        switch (o.word) {
            case "field" -> begin(s, n[0], n[1]);
            case "mic" -> mic(s, n[0], n[1]);
            case "wall" -> wall(s, n[0], n[1], n[2]);
            case "screen" -> screen(s, n[0], n[1], n[2], n[3]);
            case "set" -> setting(s, n[0], n[1]);
            case "click" -> click(s, n[0], n[1], n[2]);
            default -> known(s, n[0], n[1], n[2]);
        }
    }

    private int run() {
        Reader reader = new Reader(text.toString());
        if (reader.fault >= 0) {
            return -10 - reader.fault;
        }
        stop = 0;
        return change(s -> {
            int done = 0;
            for (Order o : reader.orders) {
                try {
                    carryOut(s, o);
                } catch (IllegalArgumentException e) {
                    stop = 2;
                    return done;
                } catch (IllegalStateException e) {
                    stop = 3;
                    return done;
                }
                done++;
            }
            return done;
        });
    }

    // ---- the face, by names

    /** Answers a call; exceptions come out as they would of the class. middle() answers bits. */
    long call(String name, int... a) {
        switch (name) {
            case "begin": return change(s -> begin(s, a[0], a[1]));
            case "addMicrophone": return change(s -> mic(s, a[0], a[1]));
            case "setClock": return setClock(a[0], a[1]);
            case "addWall": return change(s -> wall(s, a[0], a[1], a[2]));
            case "addScreen": return change(s -> screen(s, a[0], a[1], a[2], a[3]));
            case "remove": return remove(a[0], a[1]);
            case "set": return change(s -> setting(s, a[0], a[1]));
            case "setS": return setS(a[0]);
            case "click": return change(s -> click(s, a[0], a[1], a[2]));
            case "calibrate": return change(s -> known(s, a[0], a[1], a[2]));
            case "note": return note(a[0]);
            case "heard": return heard(a[0], a[1]);
            case "arrivals": return arrivals(a[0], a[1], a[2]);
            case "arrival": return arrival(a);
            case "delay": return delay(a[0], a[1]);
            case "expected": return expected(a[0], a[1], a[2]);
            case "votes": index(isCell(a[0])); return votes(now, a[0], pairs(now, -1));
            case "error": index(isCell(a[0])); return error(now, a[0], pairs(now, -1));
            case "found": return found(now, pairs(now, -1));
            case "middle": return Double.doubleToLongBits(middle(a[0] != 0));
            case "blame": index(isMic(a[0])); return blame(now, found(now, pairs(now, -1)), a[0]);
            case "suspect": return suspect();
            case "foundWithout": index(isMic(a[0])); return found(now, pairs(now, a[0]));
            case "whole": return whole(a[0]);
            case "part": return part(a[0], a[1], a[2]);
            case "type": return type(a[0]);
            case "clearCommands": return clear();
            case "runCommands": return run();
            case "stop": return stop;
            case "undo": return undo();
            case "digest": return digest();
            default: throw new UnsupportedOperationException(name);
        }
    }

    private int setClock(int m, int error) {
        index(isMic(m));
        argument(in(error, -500, 500));
        return change(s -> {
            int before = s.mics.get(m).clock;
            s.mics.get(m).clock = error;
            return before;
        });
    }

    private int remove(int kind, int i) {
        argument(in(kind, 0, 2));
        return change(s -> {
            List<?> list = kind == 0 ? s.mics : kind == 1 ? s.walls : s.screens;
            index(in(i, 0, list.size() - 1));
            list.remove(i);
            return list.size();
        });
    }

    private int setS(int value) {
        argument(value >= 0);
        return change(s -> {
            int before = (int) s.s;
            s.s = value;
            return before;
        });
    }

    private int note(int m) {
        index(isMic(m));
        return now.mics.get(m).noted ? now.mics.get(m).note : NONE;
    }

    private int heard(int m, int what) {
        index(isMic(m));
        argument(in(what, 0, 3));
        Mic mic = now.mics.get(m);
        return mic.noted ? new int[] {mic.kind, mic.strength, mic.first, mic.second}[what] : NONE;
    }

    private int arrivals(int x, int y, int m) {
        index(isMic(m));
        argument(in(x, -1000, 3000) && in(y, -1000, 3000));
        return all(now, x, y, now.mics.get(m)).size();
    }

    private int arrival(int[] a) {
        index(isMic(a[2]));
        argument(in(a[0], -1000, 3000) && in(a[1], -1000, 3000) && in(a[4], 0, 3) && a[3] >= 0);
        List<Arrival> all = all(now, a[0], a[1], now.mics.get(a[2]));
        if (a[3] >= all.size()) {
            return NONE;
        }
        Arrival one = all.get(a[3]);
        return new int[] {one.kind, one.way, one.time, one.strength}[a[4]];
    }

    private int delay(int i, int j) {
        index(isMic(i) && isMic(j));
        argument(i != j);
        boolean both = now.mics.get(i).noted && now.mics.get(j).noted;
        return both ? now.mics.get(i).note - now.mics.get(j).note : NONE;
    }

    private int expected(int cell, int i, int j) {
        index(isCell(cell) && isMic(i) && isMic(j));
        argument(i != j);
        return expected(now, cell, i, j);
    }

    private double middle(boolean down) {
        List<Integer> tied = tied(now, found(now, pairs(now, -1)));
        if (tied.isEmpty()) {
            return -1.0;
        }
        int sum = tied.stream().mapToInt(cell -> down ? cell / now.columns : cell % now.columns).sum();
        return (double) sum / (double) tied.size();
    }

    private int suspect() {
        int found = found(now, pairs(now, -1));
        int suspect = NONE;
        for (int m = now.mics.size() - 1; m >= 0; m--) {
            int own = blame(now, found, m);
            if (own > 0 && (suspect == NONE || own >= blame(now, found, suspect))) {
                suspect = m;
            }
        }
        return suspect;
    }

    private int whole(int what) {
        argument(in(what, 0, 10));
        List<int[]> pairs = pairs(now, -1);
        int found = what == 8 || what == 9 ? found(now, pairs) : NONE;
        return switch (what) {
            case 0 -> now.columns;
            case 1 -> now.rows;
            case 2 -> now.mics.size();
            case 3 -> now.walls.size();
            case 4 -> now.screens.size();
            case 5 -> now.clicks;
            case 6 -> (int) now.mics.stream().filter(m -> m.noted).count();
            case 7 -> pairs.size();
            case 8 -> found == NONE ? 0 : votes(now, found, pairs);
            case 9 -> tied(now, found).size();
            default -> (int) now.s;
        };
    }

    private int part(int kind, int i, int what) {
        argument(in(kind, 0, 3));
        argument(in(what, 0, new int[] {3, 2, 3, 0}[kind]));
        switch (kind) {
            case 0:
                index(isMic(i));
                Mic m = now.mics.get(i);
                return new int[] {m.x, m.y, m.clock, m.offset}[what];
            case 1:
                index(in(i, 0, now.walls.size() - 1));
                return now.walls.get(i)[what];
            case 2:
                index(in(i, 0, now.screens.size() - 1));
                return now.screens.get(i)[what];
            default:
                index(in(i, 0, 6));
                return now.settings[i];
        }
    }

    private int type(int value) {
        argument(in(value, 0, 127));
        state(text.length() < 150);
        text.append((char) value);
        return text.length();
    }

    private int clear() {
        int before = text.length();
        text.setLength(0);
        return before;
    }

    private int undo() {
        state(!undo.isEmpty());
        now = undo.removeLast();
        return undo.size();
    }

    private long digest() {
        List<Long> values = new ArrayList<>(List.of((long) undo.size(), (long) text.length(), (long) stop));
        for (int what = 0; what <= 10; what++) {
            values.add((long) whole(what));
        }
        int found = found(now, pairs(now, -1));
        for (int m = 0; m < now.mics.size(); m++) {
            for (int what = 0; what <= 3; what++) {
                values.add((long) part(0, m, what));
            }
            values.add((long) note(m));
            for (int what = 0; what <= 3; what++) {
                values.add((long) heard(m, what));
            }
            values.add((long) blame(now, found, m));
        }
        now.walls.forEach(w -> Arrays.stream(w).forEach(v -> values.add((long) v)));
        now.screens.forEach(w -> Arrays.stream(w).forEach(v -> values.add((long) v)));
        Arrays.stream(now.settings).forEach(v -> values.add((long) v));
        values.add((long) found);
        values.add((long) suspect());
        for (int cell = 0; cell < now.columns * now.rows; cell++) {
            values.add((long) votes(now, cell, pairs(now, -1)));
            values.add((long) error(now, cell, pairs(now, -1)));
        }
        long h = 18879;
        for (long v : values) {
            h = 31 * h + v;
        }
        return h;
    }
}
