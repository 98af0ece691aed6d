import java.util.ArrayList;
import java.util.Collections;
import java.util.List;
import java.util.Random;
import java.util.function.Supplier;

/** Random runs of calls, each answered by SandRails and by the Model; both must answer alike. */
public final class ModelTest {
    private static final int RUNS = 500;
    /** What an object answers behind so many calls is free. */
    private static final int CALLS = 512;
    /** Calls that are left for the questions at the end of a run, and for the stores, which come last. */
    private static final int AT_THE_END = 110;
    private static final int STORES = 9;
    private static final String[] ACTS = {"lift", "go", "back", "fill", "dig", "go", "lift", "go"};
    private static final String[] WAYS = {"north", "east", "south", "west"};
    private static final String[] FACTS = {"water", "wood", "plates", "carried", "ahead", "behind", "hour", "day"};

    private static final String[] USEFUL = {"while ahead > 0 ( go )", "while behind > 0 ( lift )", "if buried ( dig )",
        "if carried > 0 ( lay east )", "if carried > 0 ( lay south )", "if carried > 0 ( lay west )",
        "if carried > 0 ( lay north )", "again 9 ( if ahead > 0 and wood > 0 ( go ) ; if behind > 0 (lift) )",
        "while ahead > 0 ( go ) ; lift ; lay east ; go ; lift ; lay south ; go ; lift ; lay west ; go ; lift ; lay north"};

    private final Random random;
    private final SandRails real = new SandRails();
    private final Model model = new Model();
    private final List<String> trace = new ArrayList<>();
    private final List<Runnable> questions = new ArrayList<>();
    private int made;
    private boolean failed;
    /** How rare wrong arguments are. */
    private final int strangeness;
    private final int corner;
    /** In a lively run the stores are filled up now and then, so that most acts can be. */
    private final boolean lively;

    private ModelTest(long seed) {
        random = new Random(seed);
        lively = random.nextInt(4) > 0;
        strangeness = lively ? 20 + random.nextInt(200) : 5 + random.nextInt(60);
        corner = random.nextInt(100);
    }

    public static void main(String[] args) {
        int runs = args.length > 0 ? Integer.parseInt(args[0]) : RUNS;
        int first = args.length > 1 ? Integer.parseInt(args[1]) : 0;
        for (int i = first; i < first + runs; i++) {
            ModelTest test = new ModelTest(i);
            if (!test.perform()) {
                System.out.println("run " + i + ":");
                test.trace.forEach(System.out::println);
                System.exit(1);
            }
        }
        System.out.println("ModelTest: " + runs + " runs alike");
    }

    private boolean perform() {
        int calls = 50 + random.nextInt(CALLS - AT_THE_END - 50);
        if (random.nextInt(8) > 0) {
            prepare();
        }
        while (made < calls && !failed) {
            callAny();
        }
        prepareQuestions();
        Collections.shuffle(questions, random);
        for (int i = 0; i < questions.size() && made < CALLS - STORES && !failed; i++) {
            questions.get(i).run();
        }
        compareStores();
        return !failed;
    }

    private static String answer(Supplier<Object> call) {
        try {
            return String.valueOf(call.get());
        } catch (RuntimeException e) {
            return e.getClass().getName();
        }
    }

    private void call(String name, Supplier<Object> ofReal, Supplier<Object> ofModel) {
        if (failed || made == CALLS) {
            return;
        }
        made++;
        String got = answer(ofReal);
        String due = answer(ofModel);
        trace.add(name + " -> " + got);
        if (!got.equals(due)) {
            trace.add("    due: " + due);
            failed = true;
        }
    }

    private int pick(int least, int most) {
        if (random.nextInt(strangeness) == 0) {
            int[] strange = {least - 1, most + 1, Integer.MIN_VALUE, Integer.MAX_VALUE, -2, -1, least, most};
            return strange[random.nextInt(strange.length)];
        }
        return least + random.nextInt(most - least + 1);
    }

    /** A cell, most often near one corner, so that the calls meet. */
    private int cell() {
        if (random.nextInt(3) == 0) {
            return pick(0, 99);
        }
        int y = Math.max(0, Math.min(9, corner / 10 + random.nextInt(5) - 2));
        int x = Math.max(0, Math.min(9, corner % 10 + random.nextInt(5) - 2));
        return 10 * y + x;
    }

    private void prepare() {
        int worn = random.nextInt(3) == 0 ? 99 : lively ? 10 : 40;
        for (int n = 2 + random.nextInt(13); n > 0; n--) {
            rail(pick(0, worn), random.nextInt(4) == 0 ? pick(-9, 9) : pick(-2, 2));
        }
        for (int n = random.nextInt(20); n > 0; n--) {
            int at = cell();
            ground(at, random.nextBoolean() ? at : cell(), pick(0, 3));
        }
        for (int n = 2 + random.nextInt(3), i = 0; i < n; i++) {
            gang(pick(1, 9), pick(1, lively ? 5 : 30));
            task(i, random.nextInt(4) == 0 ? pick(0, 3) : i % 3 + 1);
        }
        store(7, pick(1, 4));
        store(0, pick(0, 60));
        store(1, pick(0, 300));
        store(3, pick(1, 60));
        store(2, pick(0, 30));
        store(6, random.nextInt(3) == 0 ? 100 : pick(0, 100));
        store(8, random.nextInt());
        for (int i = 0; i < 4; i++) {
            set(cell(), pick(0, 3), pick(1, 6));
        }
    }

    private void refill() {
        store(0, 20 + random.nextInt(50));
        store(1, 100 + random.nextInt(200));
        store(2, model.s.tank - random.nextInt(Math.min(5, model.s.tank)));
        if (random.nextInt(4) == 0) {
            store(5, random.nextInt(19));
            store(6, random.nextInt(101));
        }
    }

    private void callAny() {
        int n = random.nextInt(100);
        if (lively && random.nextInt(15) == 0) {
            refill();
        }
        if (n < 40) {
            callAct();
        } else if (n < 50) {
            callPut();
        } else if (n < 62) {
            callText();
        } else {
            callAsk();
        }
        if (random.nextInt(60) == 0) {
            call("image", () -> { real.image(); return 0; }, () -> { model.image(); return 0; });
        }
        if (random.nextInt(120) == 0) {
            call("back", real::back, model::back);
        }
    }

    private void callAct() {
        switch (random.nextInt(10)) {
            case 0: case 1: call("lift", real::lift, model::lift); break;
            case 2: case 3: case 4: {
                int way = wayToLay();
                call("lay " + way, () -> real.lay(way), () -> model.lay(way));
                break;
            }
            case 5: case 6: {
                boolean back = random.nextInt(4) == 0;
                call("go " + back, () -> real.go(back), () -> model.go(back));
                break;
            }
            case 7: call("fill", real::fill, model::fill); break;
            case 8: call("dig", real::dig, model::dig); break;
            default: {
                int minutes = random.nextInt(3) == 0 ? 1440 : pick(1, lively ? 300 : 1440);
                call("rest " + minutes, () -> real.rest(minutes), () -> model.rest(minutes));
                break;
            }
        }
    }

    /** Most often a way that is free. */
    private int wayToLay() {
        for (int i = 0; i < 8 && lively && !model.s.line.isEmpty(); i++) {
            int way = random.nextInt(4);
            int to = Model.next(model.line(model.s.line.size() - 1, false), way);
            if (to >= 0 && model.s.kind[to] != 3 && !model.ofLine(to)) {
                return way;
            }
        }
        return pick(0, 3);
    }

    private void rail(int a, int b) {
        call("rail " + a + " " + b, () -> real.rail(a, b), () -> model.rail(a, b));
    }

    private void gang(int a, int b) {
        call("gang " + a + " " + b, () -> real.gang(a, b), () -> model.gang(a, b));
    }

    private void task(int a, int b) {
        call("task " + a + " " + b, () -> real.task(a, b), () -> model.task(a, b));
    }

    private void store(int a, int b) {
        call("store " + a + " " + b, () -> real.store(a, b), () -> model.store(a, b));
    }

    private void ground(int a, int b, int c) {
        call("ground " + a + " " + b + " " + c, () -> real.ground(a, b, c), () -> model.ground(a, b, c));
    }

    private void set(int a, int b, int c) {
        call("set " + a + " " + b + " " + c, () -> real.set(a, b, c), () -> model.set(a, b, c));
    }

    private void callPut() {
        switch (random.nextInt(9)) {
            case 0: rail(pick(0, 99), pick(-9, 9)); break;
            case 1: gang(pick(1, 9), pick(1, 30)); break;
            case 2: task(pick(0, 3), pick(0, 3)); break;
            case 3: {
                int[] most = {200, 200, 60, 60, 9, 18, 100, 4, 1000};
                int what = pick(0, 8);
                store(what, what < 0 || what > 8 ? 1 : pick(0, most[what]));
                break;
            }
            case 4: store(random.nextInt(3), pick(0, 60)); break;
            case 5: set(cell(), pick(0, 3), pick(1, 6)); break;
            case 6: {
                int n = pick(0, 20);
                call("steal " + n, () -> real.steal(n), () -> model.steal(n));
                break;
            }
            case 7: {
                int n = pick(0, 15);
                if (random.nextInt(3) == 0) {
                    call("lose " + n, () -> { real.lose(n); return 0; }, () -> model.lose(n));
                }
                break;
            }
            default: {
                int at = cell();
                ground(at, random.nextInt(3) > 0 ? at : cell(), pick(0, 3));
                break;
            }
        }
    }

    // ---- texts

    private String blanks() {
        return " ".repeat(random.nextInt(3) == 0 ? random.nextInt(3) : 1);
    }

    private String row(int deep) {
        StringBuilder b = new StringBuilder(order(deep));
        for (int n = random.nextInt(4); n > 0; n--) {
            b.append(blanks()).append(';').append(blanks()).append(order(deep));
        }
        return b.toString();
    }

    private String order(int deep) {
        int n = random.nextInt(deep < 4 + random.nextInt(4) ? 14 : 10);
        if (lively && random.nextInt(3) == 0) {
            return USEFUL[random.nextInt(USEFUL.length)];
        }
        if (n < 5) {
            return ACTS[random.nextInt(ACTS.length)];
        }
        if (n < 9) {
            return "lay " + WAYS[random.nextInt(4)];
        }
        if (n < 10) {
            return "rest" + blanks() + pick(1, 1440);
        }
        String block = blanks() + "(" + blanks() + row(deep + 1) + blanks() + ")";
        if (n < 11) {
            return "again " + pick(1, random.nextBoolean() ? 99 : 5) + block;
        }
        return (n < 13 ? "if " : "while ") + either(deep) + block;
    }

    private String either(int deep) {
        StringBuilder b = new StringBuilder(atom(deep));
        for (int n = random.nextInt(3); n > 0; n--) {
            b.append(random.nextBoolean() ? " or " : " and ").append(atom(deep));
        }
        return b.toString();
    }

    private String atom(int deep) {
        int n = random.nextInt(deep < 5 + random.nextInt(3) ? 9 : 7);
        if (n == 0) {
            return "buried";
        }
        if (n == 7) {
            return "not " + atom(deep + 1);
        }
        if (n == 8) {
            return "[" + blanks() + either(deep + 1) + "]";
        }
        return FACTS[random.nextInt(8)] + blanks() + (random.nextBoolean() ? "<" : ">") + blanks()
            + (random.nextInt(6) == 0 ? pick(0, 9999) : random.nextInt(25));
    }

    private String mutated(String text) {
        StringBuilder b = new StringBuilder(text);
        String signs = " ;()[]<>0123456789abcgilnotwy\0\t\u00e9A-";
        for (int n = 1 + random.nextInt(2); n > 0 && b.length() > 0; n--) {
            int at = random.nextInt(b.length());
            char sign = signs.charAt(random.nextInt(signs.length()));
            switch (random.nextInt(4)) {
                case 0: b.deleteCharAt(at); break;
                case 1: b.insert(at, sign); break;
                case 2: b.setCharAt(at, sign); break;
                default: b.setLength(at); break;
            }
        }
        return b.toString();
    }

    private void feedText(String text) {
        for (int at = 0; at < text.length(); at += 20) {
            int[] n = new int[5];
            for (int i = 0; i < 20; i++) {
                n[i / 4] = n[i / 4] << 8 | (at + i < text.length() ? text.charAt(at + i) : 0);
            }
            call("feed", () -> real.feed(n[0], n[1], n[2], n[3], n[4]), () -> model.feed(n[0], n[1], n[2], n[3], n[4]));
        }
    }

    private void end(int n) {
        call("end " + n, () -> real.end(n), () -> model.end(n));
    }

    private void callText() {
        int n = random.nextInt(10);
        if (n > 1) {
            int number = pick(0, 3);
            int most = random.nextBoolean() ? 200 : pick(1, 200);
            call("run " + number + " " + most, () -> real.run(number, most), () -> model.run(number, most));
            call("where", real::where, () -> model.s.where);
            return;
        }
        if (random.nextInt(20) == 0) {
            end(pick(0, 400));
        }
        String text = row(0);
        for (int i = 0; i < 20 && text.length() > 200; i++) {
            text = row(0);
        }
        if (random.nextInt(2) == 0) {
            text = mutated(text);
        }
        if (random.nextInt(40) == 0) {
            text = " ".repeat(random.nextInt(4));
        }
        feedText(text);
        end(text.length());
        trace.add("\"" + text + "\"");
        call("orders", real::orders, model::orders);
        call("fault", real::fault, () -> model.fault);
    }

    // ---- questions

    private void callAsk() {
        switch (random.nextInt(12)) {
            case 0: case 1: {
                int what = pick(0, 12);
                call("count " + what, () -> real.count(what), () -> model.count(what));
                break;
            }
            case 2: {
                int rail = pick(0, 15);
                int what = pick(0, 4);
                call("look " + rail + " " + what, () -> real.look(rail, what), () -> model.look(rail, what));
                break;
            }
            case 3: {
                int place = pick(0, 15);
                boolean of = random.nextBoolean();
                call("line " + place + " " + of, () -> real.line(place, of), () -> model.line(place, of));
                break;
            }
            case 4: case 5: {
                int to = cell();
                int what = pick(-2, 20);
                call("route " + to + " " + what, () -> real.route(to, what), () -> model.route(to, what));
                break;
            }
            case 6: {
                int to = cell();
                int minutes = pick(0, 300);
                call("reach " + to + " " + minutes, () -> real.reach(to, minutes), () -> model.reach(to, minutes));
                break;
            }
            case 7: {
                boolean first = random.nextBoolean();
                call("joints " + first, () -> real.joints(first), () -> model.joints(first));
                break;
            }
            case 8: call("worn", real::worn, model::worn); call("few", real::few, model::few); break;
            case 9: case 10: {
                int at = cell();
                int minute = random.nextInt(2) == 0 ? pick(0, 1000) : random.nextInt(model.s.clock + 1);
                call("which " + at + " " + minute, () -> real.which(at, minute), () -> model.which(at, minute));
                break;
            }
            default: {
                int nights = pick(0, 30);
                boolean dunes = random.nextBoolean();
                call("ahead " + nights + " " + dunes, () -> real.ahead(nights, dunes), () -> model.ahead(nights, dunes));
                break;
            }
        }
    }

    /** Everything that can be asked at the end of a run. */
    private void prepareQuestions() {
        for (int i = -1; i < 14; i++) {
            int n = i;
            ask("count " + n, () -> real.count(n), () -> model.count(n));
        }
        for (int i = 0; i < 100; i++) {
            int n = i;
            ask("kind " + n, () -> real.kind(n), () -> model.kind(n));
            ask("which " + n, () -> real.which(n, model.s.clock), () -> model.which(n, model.s.clock));
            ask("which " + n, () -> real.which(n, model.s.clock / 2), () -> model.which(n, model.s.clock / 2));
        }
        for (int i = 0; i < 80; i++) {
            int rail = i / 5;
            int what = i % 5;
            ask("look " + rail + " " + what, () -> real.look(rail, what), () -> model.look(rail, what));
        }
        for (int i = 0; i < 17; i++) {
            int n = i;
            ask("line " + n, () -> real.line(n, false), () -> model.line(n, false));
            ask("line " + n, () -> real.line(n, true), () -> model.line(n, true));
        }
        for (int i = 0; i < 5; i++) {
            int to = cell();
            for (int k = -2; k < 12; k++) {
                int what = k;
                ask("route " + to + " " + what, () -> real.route(to, what), () -> model.route(to, what));
            }
            for (int k = 0; k < 240; k += 60) {
                int minutes = k;
                ask("reach " + to + " " + minutes, () -> real.reach(to, minutes), () -> model.reach(to, minutes));
            }
        }
        ask("worn", real::worn, model::worn);
        ask("few", real::few, model::few);
        ask("where", real::where, () -> model.s.where);
        ask("fault", real::fault, () -> model.fault);
        ask("joints", () -> real.joints(false), () -> model.joints(false));
        ask("joints", () -> real.joints(true), () -> model.joints(true));
    }

    private void ask(String name, Supplier<Object> ofReal, Supplier<Object> ofModel) {
        questions.add(() -> call(name, ofReal, ofModel));
    }

    private void compareStores() {
        for (int i = 0; i < STORES; i++) {
            int what = i;
            call("store " + what, () -> real.store(what, 1), () -> model.store(what, 1));
        }
    }
}
