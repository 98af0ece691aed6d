import java.util.ArrayList;
import java.util.HashMap;
import java.util.HashSet;
import java.util.List;
import java.util.Map;
import java.util.NoSuchElementException;
import java.util.PriorityQueue;
import java.util.Set;
import java.util.function.BooleanSupplier;

/**
 * The document told a second time, as plainly as the Java library lets one, to compare SandRails with.
 * It shares no code and no way of working with the class: texts become closures, routes are found by
 * Dijkstra's way from the end over cells and water, THE IMAGE is a deep copy.
 */
final class Model {
    static final class Rail {
        int wear;
        int width;
        int cell = -1;
        int state = 1;

        Rail copy() {
            Rail r = new Rail();
            r.wear = wear;
            r.width = width;
            r.cell = cell;
            r.state = state;
            return r;
        }
    }

    record Gang(int strength, int men, int task) { }

    record Entry(int rail, boolean laid, int minute, int cell) { }

    static final class State {
        int[] kind = new int[100];
        List<Rail> rails = new ArrayList<>();
        List<Integer> line = new ArrayList<>();
        List<Gang> gangs = new ArrayList<>();
        List<Entry> log = new ArrayList<>();
        List<Text> texts = new ArrayList<>();
        int last = -1;
        int length = 2;
        int plates;
        int wood;
        int water;
        int tank = 30;
        int steam = 1;
        int limit = 3;
        int wind;
        int seed = 1;
        int clock;
        int dry = -1;
        int left;
        int where = -1;

        State copy() {
            State s = new State();
            s.kind = kind.clone();
            for (Rail r : rails) {
                s.rails.add(r.copy());
            }
            s.line.addAll(line);
            s.gangs.addAll(gangs);
            s.log.addAll(log);
            s.texts.addAll(texts);
            s.last = last;
            s.length = length;
            s.plates = plates;
            s.wood = wood;
            s.water = water;
            s.tank = tank;
            s.steam = steam;
            s.limit = limit;
            s.wind = wind;
            s.seed = seed;
            s.clock = clock;
            s.dry = dry;
            s.left = left;
            s.where = where;
            return s;
        }
    }

    /** An act was refused, or so many were done. */
    @SuppressWarnings("serial")
    static final class Stop extends RuntimeException { }

    @SuppressWarnings("serial")
    static final class Wrong extends RuntimeException {
        final int at;

        Wrong(int at) {
            this.at = at;
        }
    }

    interface Text {
        void perform();
    }

    State s = new State();
    State image;
    StringBuilder tape = new StringBuilder();
    int fault = -1;

    // ---- tape

    int feed(int a, int b, int c, int d, int e) {
        if (tape.length() > 380) {
            return -1;
        }
        for (int n : new int[] {a, b, c, d, e}) {
            tape.append((char) (n >>> 24)).append((char) (n >> 16 & 255)).append((char) (n >> 8 & 255))
                .append((char) (n & 255));
        }
        return tape.length();
    }

    boolean end(int n) {
        if (n < 0 || tape.length() < n) {
            return false;
        }
        tape.setLength(n);
        return true;
    }

    // ---- reading

    private String text;
    private int pos;

    int orders() {
        text = tape.toString();
        tape.setLength(0);
        pos = 0;
        Text t;
        try {
            t = row(0);
            if (pos < text.length()) {
                throw new Wrong(pos);
            }
            fault = -1;
        } catch (Wrong w) {
            fault = w.at;
            throw new IllegalArgumentException();
        }
        if (s.texts.size() == 4) {
            throw new UnsupportedOperationException();
        }
        s.texts.add(t);
        return s.texts.size() - 1;
    }

    private void blanks() {
        while (pos < text.length() && text.charAt(pos) == 32) {
            pos++;
        }
    }

    /** The thing that begins at pos: a word, digits, one other byte, or nothing at the end. */
    private String peek() {
        blanks();
        int e = pos;
        String[] classes = {"abcdefghijklmnopqrstuvwxyz", "0123456789"};
        for (String c : classes) {
            while (e < text.length() && c.indexOf(text.charAt(e)) >= 0) {
                e++;
            }
            if (e > pos) {
                return text.substring(pos, e);
            }
        }
        return e < text.length() ? text.substring(e, e + 1) : "";
    }

    private String next(String... allowed) {
        String t = peek();
        if (!List.of(allowed).contains(t)) {
            throw new Wrong(pos);
        }
        pos += t.length();
        blanks();
        return t;
    }

    private int number(int least, int most) {
        String t = peek();
        if (!t.matches("[0-9]{1,4}") || Integer.parseInt(t) < least || Integer.parseInt(t) > most) {
            throw new Wrong(pos);
        }
        pos += t.length();
        blanks();
        return Integer.parseInt(t);
    }

    private Text row(int deep) {
        List<Text> all = new ArrayList<>();
        all.add(order(deep));
        while (peek().equals(";")) {
            next(";");
            all.add(order(deep));
        }
        return () -> {
            for (Text t : all) {
                t.perform();
            }
        };
    }

    private Text block(int deep) {
        peek();
        int at = pos;
        next("(");
        if (deep == 6) {
            throw new Wrong(at);
        }
        Text t = row(deep + 1);
        next(")");
        return t;
    }

    private Text order(int deep) {
        peek();
        int at = pos;
        String word = next("lift", "lay", "go", "back", "fill", "dig", "rest", "again", "if", "while");
        switch (word) {
            case "lay": {
                int way = List.of("north", "east", "south", "west").indexOf(next("north", "east", "south", "west"));
                return () -> act(at, () -> lay(way));
            }
            case "rest": {
                int n = number(1, 1440);
                return () -> act(at, () -> rest(n));
            }
            case "again": {
                int n = number(1, 99);
                Text body = block(deep);
                return () -> {
                    for (int i = 0, was = -1; i < n && was != done; i++) {
                        was = done;
                        body.perform();
                    }
                };
            }
            case "if": {
                BooleanSupplier c = either(deep);
                Text body = block(deep);
                return () -> {
                    if (c.getAsBoolean()) {
                        body.perform();
                    }
                };
            }
            case "while": {
                BooleanSupplier c = either(deep);
                Text body = block(deep);
                return () -> {
                    int was = -1;
                    while (was != done && c.getAsBoolean()) {
                        was = done;
                        body.perform();
                    }
                };
            }
            case "lift": return () -> act(at, this::lift);
            case "go": return () -> act(at, () -> go(false));
            case "back": return () -> act(at, () -> go(true));
            case "fill": return () -> act(at, this::fill);
            default: return () -> act(at, this::dig);
        }
    }

    private BooleanSupplier either(int deep) {
        BooleanSupplier a = both(deep);
        if (!peek().equals("or")) {
            return a;
        }
        next("or");
        BooleanSupplier b = either(deep);
        return () -> a.getAsBoolean() || b.getAsBoolean();
    }

    private BooleanSupplier both(int deep) {
        BooleanSupplier a = atom(deep);
        if (!peek().equals("and")) {
            return a;
        }
        next("and");
        BooleanSupplier b = both(deep);
        return () -> a.getAsBoolean() && b.getAsBoolean();
    }

    private BooleanSupplier atom(int deep) {
        peek();
        int at = pos;
        String word = next("not", "[", "buried", "water", "wood", "plates", "carried", "ahead", "behind", "hour", "day");
        if (word.equals("not") || word.equals("[")) {
            if (deep == 6) {
                throw new Wrong(at);
            }
            if (word.equals("not")) {
                BooleanSupplier a = atom(deep + 1);
                return () -> !a.getAsBoolean();
            }
            BooleanSupplier a = either(deep + 1);
            next("]");
            return a;
        }
        if (word.equals("buried")) {
            return () -> count(8) > 0;
        }
        boolean less = next("<", ">").equals("<");
        int n = number(0, 9999);
        return () -> less ? fact(word) < n : fact(word) > n;
    }

    private int fact(String word) {
        switch (word) {
            case "water": return s.water;
            case "wood": return s.wood;
            case "plates": return s.plates;
            case "carried": return count(2);
            case "ahead": return s.line.isEmpty() ? 0 : s.line.size() - s.last - s.length;
            case "behind": return s.line.isEmpty() ? 0 : s.last;
            case "hour": return s.clock / 60 % 24;
            default: return s.clock / 1440;
        }
    }

    // ---- run

    private int done;
    private int most;

    private void act(int at, Runnable what) {
        try {
            what.run();
        } catch (IllegalStateException e) {
            s.where = at;
            throw new Stop();
        }
        if (++done == most) {
            throw new Stop();
        }
    }

    int run(int orders, int most) {
        if (orders < 0 || orders >= s.texts.size()) {
            throw new IndexOutOfBoundsException();
        }
        if (most < 1 || most > 200) {
            throw new IllegalArgumentException();
        }
        done = 0;
        this.most = most;
        s.where = -1;
        try {
            s.texts.get(orders).perform();
        } catch (Stop stop) {
            return done;
        }
        return done;
    }

    // ---- ground and the rest that is put

    static void cell(int c) {
        if (c < 0 || c > 99) {
            throw new IndexOutOfBoundsException();
        }
    }

    static void way(int w) {
        if (w < 0 || w > 3) {
            throw new IndexOutOfBoundsException();
        }
    }

    static void argument(boolean right) {
        if (!right) {
            throw new IllegalArgumentException();
        }
    }

    static void state(boolean right) {
        if (!right) {
            throw new IllegalStateException();
        }
    }

    static int next(int c, int way) {
        int y = c / 10 + new int[] {-1, 0, 1, 0}[way];
        int x = c % 10 + new int[] {0, 1, 0, -1}[way];
        return y < 0 || y > 9 || x < 0 || x > 9 ? -1 : 10 * y + x;
    }

    boolean ofLine(int c) {
        for (int r : s.line) {
            if (s.rails.get(r).cell == c) {
                return true;
            }
        }
        return false;
    }

    int ground(int from, int to, int kind) {
        cell(from);
        cell(to);
        argument(kind >= 0 && kind <= 3);
        int n = 0;
        for (int c = 0; c < 100; c++) {
            boolean inY = (c / 10 - from / 10) * (c / 10 - to / 10) <= 0;
            boolean inX = (c % 10 - from % 10) * (c % 10 - to % 10) <= 0;
            if (inY && inX && !ofLine(c)) {
                s.kind[c] = kind;
                n++;
            }
        }
        return n;
    }

    int kind(int c) {
        cell(c);
        return s.kind[c];
    }

    int rail(int wear, int width) {
        argument(wear >= 0 && wear <= 99 && Math.abs((long) width) <= 9);
        if (s.rails.size() == 16) {
            throw new UnsupportedOperationException();
        }
        Rail r = new Rail();
        r.wear = wear;
        r.width = width;
        s.rails.add(r);
        return s.rails.size() - 1;
    }

    int gang(int strength, int men) {
        argument(strength >= 1 && strength <= 9 && men >= 1 && men <= 30);
        if (s.gangs.size() == 4) {
            throw new UnsupportedOperationException();
        }
        s.gangs.add(new Gang(strength, men, 0));
        return s.gangs.size() - 1;
    }

    int task(int gang, int task) {
        if (gang < 0 || gang >= s.gangs.size()) {
            throw new IndexOutOfBoundsException();
        }
        argument(task >= 0 && task <= 3);
        Gang g = s.gangs.get(gang);
        s.gangs.set(gang, new Gang(g.strength, g.men, task));
        return g.task;
    }

    private static void within(int n, int least, int most) {
        argument(n >= least && n <= most);
    }

    int store(int what, int n) {
        int was;
        switch (what) {
            case 0: within(n, 0, 9999); was = s.plates; s.plates = n; return was;
            case 1: within(n, 0, 9999); was = s.wood; s.wood = n; return was;
            case 2: within(n, 0, s.tank); was = s.water; s.water = n; return was;
            case 3:
                within(n, 1, 60);
                was = s.tank;
                s.tank = n;
                s.water = Math.min(s.water, n);
                return was;
            case 4: within(n, 0, 9); was = s.steam; s.steam = n; return was;
            case 5: within(n, 0, 18); was = s.limit; s.limit = n; return was;
            case 6: within(n, 0, 100); was = s.wind; s.wind = n; return was;
            case 7:
                within(n, 1, 4);
                state(s.line.isEmpty());
                was = s.length;
                s.length = n;
                return was;
            case 8: was = s.seed; s.seed = n; return was;
            default: throw new NoSuchElementException();
        }
    }

    int set(int c, int way, int many) {
        cell(c);
        way(way);
        argument(many >= s.length && many <= count(2));
        List<Integer> cells = new ArrayList<>();
        for (int i = 0, at = c; i < many; i++) {
            argument(at >= 0 && s.kind[at] != 3);
            cells.add(at);
            at = next(at, way);
        }
        state(s.line.isEmpty());
        for (int at : cells) {
            put(leastCarried(), at, s.clock);
        }
        s.last = 0;
        return cells.get(many - 1);
    }

    private void put(int r, int at, int minute) {
        s.rails.get(r).state = 0;
        s.rails.get(r).cell = at;
        s.line.add(r);
        if (s.kind[at] == 2) {
            s.kind[at] = 0;
        }
        note(new Entry(r, true, minute, at));
    }

    private void note(Entry e) {
        s.log.add(e);
        if (s.log.size() > 100) {
            s.log.remove(0);
        }
    }

    private int leastCarried() {
        for (int r = 0; r < s.rails.size(); r++) {
            if (s.rails.get(r).state == 1) {
                return r;
            }
        }
        return -1;
    }

    // ---- acts

    private int strength(int task) {
        return s.gangs.stream().filter(g -> g.task == task).mapToInt(Gang::strength).sum();
    }

    private static int roundUp(int a, int b) {
        return a % b == 0 ? a / b : a / b + 1;
    }

    private int draw(State of) {
        of.seed = of.seed * 1103515245 + 12345;
        return of.seed >> 16 & 32767;
    }

    private void night(State of) {
        int way = draw(of) % 4;
        List<Integer> dunes = new ArrayList<>();
        for (int c = 0; c < 100; c++) {
            if (of.kind[c] == 2) {
                dunes.add(c);
            }
        }
        for (int c : dunes) {
            boolean moved = draw(of) % 100 < of.wind;
            int to = next(c, way);
            if (moved && to == -1) {
                of.kind[c] = 0;
            } else if (moved && of.kind[to] == 0) {
                of.kind[c] = 0;
                of.kind[to] = 2;
            }
        }
    }

    private void pass(int minutes) {
        int thirst = roundUp(count(10), 20);
        for (int i = 0; i < minutes; i++) {
            s.clock++;
            if (s.clock % 60 == 0) {
                if (s.water < thirst && s.dry == -1) {
                    s.dry = s.clock;
                }
                s.water = Math.max(s.water - thirst, 0);
            }
            if (s.clock % 1440 == 0) {
                night(s);
            }
        }
    }

    private boolean buried(int place) {
        return s.kind[s.rails.get(s.line.get(place)).cell] == 2;
    }

    int lift() {
        state(!s.line.isEmpty() && s.last > 0 && !buried(0) && strength(1) > 0);
        int r = s.line.remove(0);
        Rail rail = s.rails.get(r);
        int minutes = roundUp(32, strength(1));
        s.last--;
        s.plates = Math.min(9999, s.plates + 2);
        note(new Entry(r, false, s.clock + minutes, rail.cell));
        rail.state = 1;
        rail.cell = -1;
        pass(minutes);
        return r;
    }

    int lay(int way) {
        way(way);
        state(!s.line.isEmpty());
        int to = next(s.rails.get(s.line.get(s.line.size() - 1)).cell, way);
        state(to >= 0 && s.kind[to] != 3 && !ofLine(to) && count(2) > 0 && s.plates >= 2 && strength(2) > 0);
        int r = leastCarried();
        int k = s.kind[to];
        int minutes = roundUp((new int[] {12, 20, 40}[k] + s.line.size()) * 4, strength(2));
        s.plates -= 2;
        Rail rail = s.rails.get(r);
        int wear = rail.wear + new int[] {1, 3, 2}[k];
        if (wear >= 100) {
            rail.state = 2;
            pass(minutes);
            return -1;
        }
        rail.wear = wear;
        rail.width += draw(s) % 3 - 1;
        if (Math.abs(rail.width) == 10) {
            rail.width = rail.width / 10 * 9;
        }
        put(r, to, s.clock + minutes);
        pass(minutes);
        return r;
    }

    boolean go(boolean back) {
        state(!s.line.isEmpty());
        int from = back ? s.last : s.last + s.length - 1;
        int to = back ? from - 1 : from + 1;
        state(to >= 0 && to < s.line.size() && !buried(to) && s.water >= s.steam && s.wood > 0);
        for (int i = 0; i < s.length; i++) {
            state(!buried(s.last + i));
        }
        s.water -= s.steam;
        s.wood--;
        int a = s.rails.get(s.line.get(from)).width;
        int b = s.rails.get(s.line.get(to)).width;
        if (Math.abs(a - b) > s.limit) {
            s.left++;
            pass(60);
            return false;
        }
        s.last += to - from;
        pass(2);
        return true;
    }

    private boolean wet(int c) {
        for (int w = 0; w < 4; w++) {
            int n = next(c, w);
            if (n >= 0 && s.kind[n] == 3) {
                return true;
            }
        }
        return false;
    }

    int fill() {
        boolean beside = false;
        for (int i = 0; i < s.length && !s.line.isEmpty(); i++) {
            beside |= wet(s.rails.get(s.line.get(s.last + i)).cell);
        }
        state(beside);
        int came = s.tank - s.water;
        s.water = s.tank;
        pass(15);
        return came;
    }

    int dig() {
        for (int i = 0; i < s.line.size(); i++) {
            if (buried(i) && strength(3) > 0) {
                int c = s.rails.get(s.line.get(i)).cell;
                s.kind[c] = 0;
                pass(roundUp(100, strength(3)));
                return c;
            }
        }
        throw new IllegalStateException();
    }

    int rest(int minutes) {
        argument(minutes >= 1 && minutes <= 1440);
        pass(minutes);
        return s.clock;
    }

    // ---- asked

    private void railNumber(int r) {
        if (r < 0 || r >= s.rails.size()) {
            throw new IndexOutOfBoundsException();
        }
    }

    int look(int r, int what) {
        railNumber(r);
        switch (what) {
            case 0: return s.rails.get(r).wear;
            case 1: return s.rails.get(r).width;
            case 2: return s.rails.get(r).cell;
            case 3: return s.rails.get(r).state;
            case 4: {
                Set<Integer> cells = new HashSet<>();
                for (Entry e : s.log) {
                    if (e.rail == r && e.laid) {
                        cells.add(e.cell);
                    }
                }
                return cells.size();
            }
            default: throw new NoSuchElementException();
        }
    }

    int line(int place, boolean ofRail) {
        if (place < 0 || place >= s.line.size()) {
            return -1;
        }
        return ofRail ? s.line.get(place) : s.rails.get(s.line.get(place)).cell;
    }

    /** What is LEFT: minutes and steps. */
    record Left(int minutes, int steps) implements Comparable<Left> {
        public int compareTo(Left o) {
            return minutes != o.minutes ? Integer.compare(minutes, o.minutes) : Integer.compare(steps, o.steps);
        }
    }

    record Node(int cell, int water, Left left) { }

    private int minutesOf(int c) {
        return new int[] {12, 20, 40}[s.kind[c]];
    }

    private boolean free(int c) {
        return c >= 0 && s.kind[c] != 3 && !ofLine(c);
    }

    private int head() {
        return s.rails.get(s.line.get(s.line.size() - 1)).cell;
    }

    /** By cell and water, from the end back. */
    private Map<Integer, Left> lefts(int to) {
        Map<Integer, Left> best = new HashMap<>();
        boolean[] free = new boolean[100];
        for (int c = 0; c < 100; c++) {
            free[c] = free(c);
        }
        PriorityQueue<Node> open = new PriorityQueue<>((a, b) -> a.left.compareTo(b.left));
        for (int w = 0; w <= s.tank; w++) {
            open.add(new Node(to, w, new Left(0, 0)));
        }
        while (!open.isEmpty()) {
            Node n = open.poll();
            if (best.putIfAbsent(n.cell * 100 + n.water, n.left) != null || n.cell == head()) {
                continue;
            }
            for (int way = 0; way < 4; way++) {
                int from = next(n.cell, way);
                if (from < 0 || from == to || !free[from] && from != head()) {
                    continue;
                }
                if (n.water < s.tank) {
                    open.add(new Node(from, n.water + 1,
                        new Left(n.left.minutes + minutesOf(n.cell), n.left.steps + 1)));
                }
                if (n.water == s.tank - 1 && wet(from)) {
                    for (int w = 0; w <= s.tank; w++) {
                        open.add(new Node(from, w,
                            new Left(n.left.minutes + 15 + minutesOf(n.cell), n.left.steps + 1)));
                    }
                }
            }
        }
        return best;
    }

    /** Cells of the route, each with the minute at which it is come to; null without one. */
    private List<int[]> route(int to) {
        Map<Integer, Left> lefts = lefts(to);
        int at = head();
        int water = s.water;
        Left now = lefts.get(at * 100 + water);
        if (now == null) {
            return null;
        }
        int all = now.minutes;
        List<int[]> cells = new ArrayList<>();
        while (at != to) {
            int[] step = stepOf(lefts, at, water, now);
            at = step[0];
            water = step[1];
            now = lefts.get(at * 100 + water);
            cells.add(new int[] {at, all - now.minutes});
        }
        return cells;
    }

    private int[] stepOf(Map<Integer, Left> lefts, int at, int water, Left now) {
        for (int taking = 0; taking < 2; taking++) {
            int w = taking == 1 ? s.tank : water;
            if (w == 0 || taking == 1 && !wet(at)) {
                continue;
            }
            for (int c = 0; c < 100; c++) {
                boolean beside = Math.abs(c / 10 - at / 10) + Math.abs(c % 10 - at % 10) == 1;
                Left l = beside && free(c) ? lefts.get(c * 100 + w - 1) : null;
                if (l != null && new Left(l.minutes + minutesOf(c) + 15 * taking, l.steps + 1).equals(now)) {
                    return new int[] {c, w - 1};
                }
            }
        }
        throw new AssertionError("LEFT cannot be kept");
    }

    int route(int to, int what) {
        cell(to);
        argument(free(to) && what >= -2);
        state(!s.line.isEmpty());
        List<int[]> r = route(to);
        if (r == null) {
            return -1;
        }
        if (what == -1) {
            return r.get(r.size() - 1)[1];
        }
        return what == -2 ? r.size() : what < r.size() ? r.get(what)[0] : -1;
    }

    int reach(int to, int minutes) {
        cell(to);
        argument(free(to) && minutes >= 0);
        state(!s.line.isEmpty());
        List<int[]> r = route(to);
        return r == null ? -1 : (int) r.stream().filter(c -> c[1] <= minutes).count();
    }

    int joints(boolean first) {
        int most = 0;
        for (int i = 1; i < s.line.size(); i++) {
            int d = Math.abs(s.rails.get(s.line.get(i)).width - s.rails.get(s.line.get(i - 1)).width);
            if (first && d > s.limit) {
                return i - 1;
            }
            most = Math.max(most, d);
        }
        return first ? -1 : most;
    }

    int worn() {
        int best = -1;
        for (int wear = 99; wear >= 0 && best < 0; wear--) {
            for (int r = s.rails.size() - 1; r >= 0; r--) {
                if (s.rails.get(r).state < 2 && s.rails.get(r).wear == wear) {
                    best = r;
                }
            }
        }
        return best;
    }

    boolean few() {
        return s.rails.stream().filter(r -> r.state < 2).count() > s.length;
    }

    int steal(int plates) {
        argument(plates >= 0);
        int n = Math.min(plates, s.plates);
        s.plates -= n;
        return n;
    }

    int lose(int r) {
        railNumber(r);
        state(s.rails.get(r).state == 1);
        s.rails.get(r).state = 3;
        return 0;
    }

    int which(int c, int minute) {
        cell(c);
        int rail = -1;
        for (Entry e : s.log) {
            if (e.cell == c && e.minute <= minute) {
                rail = e.laid ? e.rail : -1;
            }
        }
        return rail;
    }

    int ahead(int nights, boolean dunes) {
        argument(nights >= 0 && nights <= 30);
        State now = s;
        s = now.copy();
        for (int i = 0; i < nights; i++) {
            night(s);
        }
        int n = count(dunes ? 9 : 8);
        s = now;
        return n;
    }

    void image() {
        image = s.copy();
    }

    boolean back() {
        if (image == null) {
            return false;
        }
        s = image.copy();
        return true;
    }

    int count(int what) {
        int n = 0;
        switch (what) {
            case 0: return s.clock;
            case 1: return s.line.size();
            case 2: return (int) s.rails.stream().filter(r -> r.state == 1).count();
            case 3: return s.line.isEmpty() ? -1 : s.last + s.length - 1;
            case 4: return s.plates;
            case 5: return s.wood;
            case 6: return s.water;
            case 7: return s.dry;
            case 8:
                for (int i = 0; i < s.line.size(); i++) {
                    n += buried(i) ? 1 : 0;
                }
                return n;
            case 9:
                for (int k : s.kind) {
                    n += k == 2 ? 1 : 0;
                }
                return n;
            case 10: return s.gangs.stream().mapToInt(Gang::men).sum();
            case 11: return s.log.size();
            case 12: return s.left;
            default: return -1;
        }
    }
}
