import java.util.function.Consumer;

/** The paragraph on exceptions and the sentences of the promises, each with its edges. */
public final class EdgeCallsTest extends Kit {
    private EdgeCallsTest() { }

    public static void main(String[] args) {
        begin("EdgeCallsTest");
        firstToldException();
        throwingChangesNothing();
        throwingUsesTheTapeUp();
        noSuch();
        refusedOrSetOut();
        newObject();
        feed();
        endOfTape();
        orders();
        fault();
        ground();
        kind();
        rail();
        gang();
        task();
        store();
        set();
        lift();
        lay();
        go();
        fill();
        dig();
        rest();
        run();
        where();
        look();
        line();
        route();
        reach();
        joints();
        worn();
        few();
        steal();
        lose();
        which();
        ahead();
        image();
        back();
        count();
        wholeLife();
        end();
    }

    // ---- exceptions

    /** All is there: three rails of the line (the last one buried), one carried, one split, one lost. */
    private static SandRails rich() {
        SandRails s = buriedLine(3, 2, 2);
        s.rail(99, 0);
        s.rail(98, 4);
        s.rail(1, 1);
        s.task(2, 0);
        s.ground(23, 23, 3);
        s.ground(40, 45, 2);
        s.lay(EAST);
        s.lose(5);
        Kit.orders(s, "rest 2;dig");
        s.run(0, 9);
        return s;
    }

    private static void firstToldException() {
        says("Of several exceptions the one told first is thrown;");
        SandRails s = rich();
        refused("ground: cell, kind", INDEX, () -> s.ground(100, 0, 9));
        refused("task: gang, task", INDEX, () -> s.task(9, 9));
        refused("store: what, number", NO_SUCH, () -> s.store(9, -1));
        refused("store: number, set out", ARGUMENT, () -> s.store(7, 9));
        refused("set: cell, number, set out", INDEX, () -> s.set(100, 0, 0));
        refused("set: way, number, set out", INDEX, () -> s.set(50, 4, 0));
        refused("set: number, set out", ARGUMENT, () -> s.set(50, 0, 0));
        refused("set: well, set out", ARGUMENT, () -> s.set(23, 0, 1));
        refused("lay: way, refused", INDEX, () -> s.lay(4));
        refused("run: orders, number", INDEX, () -> s.run(1, 0));
        refused("look: rail, what", INDEX, () -> s.look(6, 9));
        refused("route: cell, what", INDEX, () -> s.route(-1, -3));
        refused("reach: cell, minutes", INDEX, () -> s.reach(100, -1));
        SandRails t = new SandRails();
        t.ground(5, 5, 3);
        refused("route: a well, not set out", ARGUMENT, () -> t.route(5, 0));
        refused("route: what, not set out", ARGUMENT, () -> t.route(4, -3));
        refused("reach: a well, not set out", ARGUMENT, () -> t.reach(5, 0));
        refused("reach: minutes, not set out", ARGUMENT, () -> t.reach(4, -1));
        refused("lay: way, not set out", INDEX, () -> t.lay(-1));
        refused("lose: no rail", INDEX, () -> { t.lose(0); return 0; });
        for (int i = 0; i < 16; i++) {
            t.rail(0, 0);
        }
        refused("rail: number, 16", ARGUMENT, () -> t.rail(100, 0));
        for (int i = 0; i < 4; i++) {
            t.gang(1, 1);
            Kit.orders(t, "go");
        }
        refused("gang: number, 4", ARGUMENT, () -> t.gang(0, 1));
        text(t, "went");
        refused("orders: text, 4", ARGUMENT, t::orders);
    }

    private static void nothingChanges(String what, Class<? extends RuntimeException> want, Consumer<SandRails> call) {
        SandRails s = rich();
        s.feed(0, 0, 0, 0, 0);
        String before = state(s, 6, 3);
        refused(what, want, () -> { call.accept(s); return 0; });
        due(what + ", behind it", state(s, 6, 3), before);
        due("the tape", s.end(20) && !s.end(21), true);
    }

    private static void throwingChangesNothing() {
        says("a call that throws changes nothing but the TAPE, where it is used up.");
        nothingChanges("ground", INDEX, s -> s.ground(50, 100, 1));
        nothingChanges("ground", ARGUMENT, s -> s.ground(50, 99, 4));
        nothingChanges("kind", INDEX, s -> s.kind(100));
        nothingChanges("rail", ARGUMENT, s -> s.rail(0, 10));
        nothingChanges("gang", ARGUMENT, s -> s.gang(1, 31));
        nothingChanges("task", INDEX, s -> s.task(3, 1));
        nothingChanges("task", ARGUMENT, s -> s.task(0, 4));
        nothingChanges("store", NO_SUCH, s -> s.store(9, 1));
        nothingChanges("plates", ARGUMENT, s -> s.store(0, 10000));
        nothingChanges("tank", ARGUMENT, s -> s.store(3, 0));
        nothingChanges("length", STATE, s -> s.store(7, 1));
        nothingChanges("set", INDEX, s -> s.set(100, 1, 2));
        nothingChanges("set", ARGUMENT, s -> s.set(50, 1, 2));
        nothingChanges("lift", STATE, SandRails::lift);
        nothingChanges("lay", INDEX, s -> s.lay(4));
        nothingChanges("lay on the line", STATE, s -> s.lay(WEST));
        nothingChanges("go", STATE, s -> s.go(false));
        nothingChanges("back", STATE, s -> s.go(true));
        nothingChanges("fill", STATE, SandRails::fill);
        nothingChanges("dig", STATE, SandRails::dig);
        nothingChanges("rest", ARGUMENT, s -> s.rest(1441));
        nothingChanges("run", INDEX, s -> s.run(1, 1));
        nothingChanges("run", ARGUMENT, s -> s.run(0, 201));
        nothingChanges("look", INDEX, s -> s.look(6, 0));
        nothingChanges("look", NO_SUCH, s -> s.look(0, 5));
        nothingChanges("route", INDEX, s -> s.route(100, 0));
        nothingChanges("route", ARGUMENT, s -> s.route(23, 0));
        nothingChanges("reach", ARGUMENT, s -> s.reach(50, -1));
        nothingChanges("steal", ARGUMENT, s -> s.steal(-1));
        nothingChanges("lose", INDEX, s -> s.lose(6));
        nothingChanges("lose", STATE, s -> s.lose(0));
        nothingChanges("which", INDEX, s -> s.which(100, 0));
        nothingChanges("ahead", ARGUMENT, s -> s.ahead(31, true));
        setThatThrows();
    }

    private static void setThatThrows() {
        SandRails s = equipped(5);
        s.ground(13, 13, 3);
        s.ground(10, 12, 2);
        String before = state(s, 5, 3);
        refused("to a well", ARGUMENT, () -> s.set(10, EAST, 4));
        refused("beyond", ARGUMENT, () -> s.set(20, NORTH, 4));
        refused("too few", ARGUMENT, () -> s.set(10, EAST, 1));
        due("set, behind it", state(s, 5, 3), before);
        SandRails t = new SandRails();
        t.rest(5);
        t.image();
        t.rest(5);
        refused("rest", ARGUMENT, () -> t.rest(0));
        t.back();
        due("the image, too, is as it was", t.count(0), 5);
    }

    private static void throwingUsesTheTapeUp() {
        says("but the TAPE, where it is used up.");
        SandRails s = rich();
        text(s, "rest 2;dog");
        String before = state(s, 6, 3).replace("fault -1", "fault 7");
        refused("a wrong text", ARGUMENT, s::orders);
        due("nothing is left", s.end(1), false);
        due("all but fault", state(s, 6, 3), before);
        due("feed begins anew", s.feed(0, 0, 0, 0, 0), 20);
        SandRails t = new SandRails();
        for (int i = 0; i < 4; i++) {
            Kit.orders(t, "rest 1");
        }
        text(t, "rest 1");
        refused("a fifth text", FULL, t::orders);
        due("nothing is left", t.end(1), false);
        due("feed begins anew", t.feed(0, 0, 0, 0, 0), 20);
    }

    private static void noSuch() {
        says("IndexOutOfBoundsException: there is no such CELL, WAY, RAIL, GANG, ORDERS.");
        SandRails s = rich();
        for (int cell : new int[] {-1, 100, LEAST, MOST}) {
            refused("kind " + cell, INDEX, () -> s.kind(cell));
            refused("ground from " + cell, INDEX, () -> s.ground(cell, 0, 0));
            refused("ground to " + cell, INDEX, () -> s.ground(0, cell, 0));
            refused("set " + cell, INDEX, () -> s.set(cell, 0, 2));
            refused("route " + cell, INDEX, () -> s.route(cell, 0));
            refused("reach " + cell, INDEX, () -> s.reach(cell, 0));
            refused("which " + cell, INDEX, () -> s.which(cell, 0));
        }
        for (int way : new int[] {-1, 4, LEAST, MOST}) {
            refused("set way " + way, INDEX, () -> s.set(0, way, 2));
            refused("lay way " + way, INDEX, () -> s.lay(way));
        }
        for (int rail : new int[] {-1, 6, 15, 16, LEAST, MOST}) {
            refused("look " + rail, INDEX, () -> s.look(rail, 0));
            refused("lose " + rail, INDEX, () -> { s.lose(rail); return 0; });
        }
        for (int gang : new int[] {-1, 3, 4, LEAST, MOST}) {
            refused("task of " + gang, INDEX, () -> s.task(gang, 0));
        }
        for (int orders : new int[] {-1, 1, 3, 4, LEAST, MOST}) {
            refused("run " + orders, INDEX, () -> s.run(orders, 1));
        }
    }

    private static void refusedOrSetOut() {
        says("IllegalStateException: an ACT is refused (or THE LINE is set out, or is not).");
        SandRails s = equipped(4);
        refused("route, not set out", STATE, () -> s.route(5, 0));
        refused("reach, not set out", STATE, () -> s.reach(5, 0));
        refused("lift", STATE, s::lift);
        refused("lay", STATE, () -> s.lay(0));
        refused("go", STATE, () -> s.go(false));
        refused("back", STATE, () -> s.go(true));
        refused("fill", STATE, s::fill);
        refused("dig", STATE, s::dig);
        due("the length may be put", s.store(7, 1), 2);
        s.set(50, EAST, 2);
        refused("the length, set out", STATE, () -> s.store(7, 1));
        refused("set out again", STATE, () -> s.set(60, EAST, 2));
        due("a route now", s.route(5, -2), 9);
        due("a reach now", s.reach(5, 12), 1);
    }

    // ---- promises 1 to 5

    private static void newObject() {
        says("Sand alone; no RAILS, GANGS, STORES; a TRAIN of 2; SEED 1.");
        SandRails s = new SandRails();
        due("all", state(s, 0, 0), "counts 0 0 0 -1 0 0 0 -1 0 0 0 0 0; kinds " + "0".repeat(100)
            + "; rails; line -1/-1; where -1, fault -1; joints 0 -1; worn -1, few false; stores 30 1 3 0 1; tasks");
        due("a train of 2", s.store(7, 2), 2);
        refused("no rails", INDEX, () -> s.look(0, 0));
        refused("no gangs", INDEX, () -> s.task(0, 0));
        refused("no orders", INDEX, () -> s.run(0, 1));
        due("no tape", s.end(1), false);
        due("no image", s.back(), false);
    }

    private static void feed() {
        says("Twenty bytes come behind the TAPE, of each number the highest first: how many it has; "
            + "NONE, and none come, if it would have more than 400.");
        SandRails s = new SandRails();
        // "rest 1234;rest 567;go" in the order of the bytes, each number's highest first
        due("twenty", s.feed(0x72657374, 0x20313233, 0x343b7265, 0x73742035, 0x36373b67), 20);
        due("forty", s.feed(0x6f202020, 0x20202020, 0x20202020, 0x20202020, 0x20202020), 40);
        due("a text", s.orders(), 0);
        s.run(0, 2);
        due("its numbers", s.count(0), 1234 + 567);
        // Bytes from 128 on are no others: 0xff stands at its place.
        s.feed(0x676f20ff, -1, -1, -1, -1);
        refused("bytes of 255", ARGUMENT, s::orders);
        due("at the fourth", s.fault(), 3);
        for (int i = 1; i <= 20; i++) {
            due("feed", s.feed(0x20202020, 0x20202020, 0x20202020, 0x20202020, 0x20202020), 20 * i);
        }
        due("beyond 400", s.feed(0, 0, 0, 0, 0), NONE);
        due("none came", s.end(400), true);
        due("none came", s.end(401), false);
        s.end(381);
        due("381 and 20", s.feed(0, 0, 0, 0, 0), NONE);
        due("none came", s.end(382), false);
        s.end(380);
        due("380 and 20", s.feed(0x20202020, 0x20202020, 0x20202020, 0x20202020, 0x2020676f), 400);
        due("the last bytes", s.orders(), 1);
        due("refused there", s.run(1, 1) * 1000 + s.where(), 398);
    }

    private static void endOfTape() {
        says("The TAPE has its first n bytes alone: true; false, and nothing happens, if it has fewer, "
            + "or n is below 0.");
        SandRails s = new SandRails();
        due("none of none", s.end(0), true);
        due("one of none", s.end(1), false);
        due("below 0", s.end(-1), false);
        due("far below 0", s.end(LEAST), false);
        s.feed(0x676f3b67, 0x6f000000, 0, 0, 0);
        due("more than twenty", s.end(21), false);
        due("far more", s.end(MOST), false);
        due("below 0", s.end(-1), false);
        due("nothing happened", s.end(20), true);
        due("five", s.end(5), true);
        due("no longer six", s.end(6), false);
        due("five still", s.end(5), true);
        due("behind the five", s.feed(0x3b676f20, 0x20202020, 0x20202020, 0x20202020, 0x20202020), 25);
        due("go;go;go", s.orders(), 0);
        text(s, "go;");
        due("its first two", s.end(2), true);
        due("go", s.orders(), 1);
        s.feed(0, 0, 0, 0, 0);
        due("none of twenty", s.end(0), true);
        due("none is left", s.end(1), false);
    }

    private static void orders() {
        says("Uses the TAPE up: ORDERS: their number. IllegalArgumentException: the text is wrong; "
            + "UnsupportedOperationException: there are 4.");
        SandRails s = new SandRails();
        refused("an empty tape", ARGUMENT, s::orders);
        due("the first", Kit.orders(s, "rest 1"), 0);
        due("the tape is used up", s.end(1), false);
        refused("an empty tape again", ARGUMENT, s::orders);
        text(s, "rest");
        refused("wrong", ARGUMENT, s::orders);
        due("the tape is used up", s.end(1), false);
        due("a wrong one has no number", Kit.orders(s, "rest 2"), 1);
        due("the third", Kit.orders(s, "rest 3"), 2);
        due("the fourth", Kit.orders(s, "rest 4"), 3);
        text(s, "rest 5");
        refused("a fifth", FULL, s::orders);
        due("the tape is used up", s.end(1), false);
        refused("a fifth that is empty", ARGUMENT, s::orders);
        s.run(3, 1);
        due("the fourth is as it was", s.count(0), 4);
        s.run(0, 1);
        due("the first, too", s.count(0), 5);
    }

    private static void fault() {
        says("The first wrong byte of the latest text that was read; NONE without one, and ahead of any.");
        SandRails s = new SandRails();
        due("ahead of any", s.fault(), NONE);
        text(s, "go;dog");
        due("ahead of reading", s.fault(), NONE);
        refused("wrong", ARGUMENT, s::orders);
        due("its byte", s.fault(), 3);
        due("told again", s.fault(), 3);
        text(s, "go");
        due("not yet read", s.fault(), 3);
        s.orders();
        due("the latest has none", s.fault(), NONE);
        refused("empty", ARGUMENT, s::orders);
        due("at 0", s.fault(), 0);
        Kit.orders(s, "go");
        Kit.orders(s, "go");
        Kit.orders(s, "go");
        text(s, "g");
        refused("wrong beside four", ARGUMENT, s::orders);
        due("at 0", s.fault(), 0);
        text(s, "go");
        refused("a fifth", FULL, s::orders);
        due("it was read and is right", s.fault(), NONE);
        text(s, " ".repeat(400));
        refused("blanks", ARGUMENT, s::orders);
        due("the text's length", s.fault(), 400);
    }

    // ---- promises 6 to 12

    private static void ground() {
        says("KIND of all CELLS from one to another one (corners of an area, both in), but of THE LINE: how many.");
        int[][] corners = {{12, 34}, {34, 12}, {14, 32}, {32, 14}};
        for (int[] c : corners) {
            SandRails s = new SandRails();
            due("nine", s.ground(c[0], c[1], 2), 9);
            due("they are dunes", s.count(9), 9);
            due("the corners", s.kind(12) + s.kind(14) + s.kind(32) + s.kind(34), 8);
        }
        SandRails s = equipped(4);
        due("one", s.ground(99, 99, 1), 1);
        due("a row", s.ground(90, 99, 2), 10);
        due("a column", s.ground(9, 99, 2), 10);
        due("all", s.ground(99, 0, 0), 100);
        due("as it was counts", s.ground(0, 99, 0), 100);
        s.set(11, EAST, 4);
        due("all but the line", s.ground(0, 99, 3), 96);
        for (int cell = 10; cell < 16; cell++) {
            due("cell " + cell, s.kind(cell), cell > 10 && cell < 15 ? 0 : 3);
        }
        due("the line alone", s.ground(11, 14, 2), 0);
        due("none is buried", s.count(8), 0);
        says("IllegalArgumentException: it is none.");
        refused("kind 4", ARGUMENT, () -> s.ground(0, 0, 4));
        refused("kind -1", ARGUMENT, () -> s.ground(0, 0, -1));
        due("as it was", s.kind(0), 3);
    }

    private static void kind() {
        says("KIND of a CELL.");
        SandRails s = equipped(2);
        for (int cell = 0; cell < 100; cell++) {
            s.ground(cell, cell, cell * 7 / 3 % 4);
        }
        for (int cell = 0; cell < 100; cell++) {
            due("kind of " + cell, s.kind(cell), cell * 7 / 3 % 4);
        }
        refused("cell 100", INDEX, () -> s.kind(100));
        refused("cell -1", INDEX, () -> s.kind(-1));
    }

    private static void rail() {
        says("A RAIL, CARRIED: its number. IllegalArgumentException: a number is none; "
            + "UnsupportedOperationException: there are 16.");
        SandRails s = new SandRails();
        refused("both are none", ARGUMENT, () -> s.rail(-1, 10));
        for (int i = 0; i < 16; i++) {
            due("its number", s.rail(99 - i, i - 9 < 9 ? i - 9 : 9), i);
            due("carried", s.look(i, 3), 1);
            due("on no cell", s.look(i, 2), NONE);
        }
        for (int i = 0; i < 16; i++) {
            due("wear", s.look(i, 0), 99 - i);
            due("width", s.look(i, 1), i - 9);
        }
        refused("a 17th", FULL, () -> s.rail(0, 0));
        due("16 still", s.count(2), 16);
        s.set(0, EAST, 4);
        refused("laid ones are some of them", FULL, () -> s.rail(0, 0));
    }

    private static void gang() {
        says("A GANG: its number. IllegalArgumentException: a number is none; "
            + "UnsupportedOperationException: there are 4.");
        SandRails s = new SandRails();
        refused("both are none", ARGUMENT, () -> s.gang(0, 31));
        for (int i = 0; i < 4; i++) {
            due("its number", s.gang(i + 1, 30), i);
            due("men", s.count(10), 30 * (i + 1));
        }
        refused("a fifth", FULL, () -> s.gang(1, 1));
        due("men as they were", s.count(10), 120);
    }

    private static void task() {
        says("TASK of a GANG from now on: what it was. IllegalArgumentException: it is none.");
        SandRails s = equipped(4);
        due("what it was", s.task(0, 1), 1);
        s.set(0, EAST, 4);
        s.go(false);
        due("no longer", s.task(0, 2), 1);
        refused("none lifts from now on", STATE, s::lift);
        refused("task 4", ARGUMENT, () -> s.task(0, 4));
        refused("task -1", ARGUMENT, () -> s.task(0, -1));
        due("as it was", s.task(0, 1), 2);
        due("lifts from now on", s.lift(), 0);
    }

    private static void store() {
        says("STORES: what 0 PLATES, 1 WOOD, 2 WATER, 3 TANK (WATER no more than it then), 4 STEAM, 5 LIMIT, 6 WIND, "
            + "7 length of THE TRAIN (ahead of SET OUT), 8 SEED: what it was.");
        SandRails s = new SandRails();
        int[] first = {0, 0, 0, 30, 1, 3, 0, 2, 1};
        int[] second = {5, 6, 7, 31, 2, 4, 8, 3, 9};
        for (int what = 0; what <= 8; what++) {
            due("store " + what, s.store(what, second[what]), first[what]);
        }
        for (int what = 0; what <= 8; what++) {
            due("store " + what + " was", s.store(what, second[what]), second[what]);
        }
        due("plates", s.count(4), 5);
        due("wood", s.count(5), 6);
        due("water", s.count(6), 7);
        s.store(3, 7);
        due("a tank of as much", s.count(6), 7);
        s.store(3, 6);
        due("a tank of less", s.count(6), 6);
        s.store(3, 60);
        due("a tank of more", s.count(6), 6);
        says("NoSuchElementException: another what; IllegalArgumentException: the number is none (SEED: any);");
        for (int what : new int[] {-1, 9, LEAST, MOST}) {
            refused("what " + what, NO_SUCH, () -> s.store(what, 1));
        }
        int[] most = {9999, 9999, 60, 60, 9, 18, 100, 4};
        int[] least = {0, 0, 0, 1, 0, 0, 0, 1};
        for (int i = 0; i < 8; i++) {
            int what = i;
            refused("too little of " + what, ARGUMENT, () -> s.store(what, least[what] - 1));
            refused("too much of " + what, ARGUMENT, () -> s.store(what, most[what] + 1));
        }
        for (int seed : new int[] {LEAST, -1, 0, MOST}) {
            s.store(8, seed);
            due("any seed", s.store(8, seed), seed);
        }
        says("IllegalStateException: THE LINE is set out (7).");
        SandRails t = equipped(3);
        t.store(7, 3);
        t.set(0, EAST, 3);
        for (int length = 1; length <= 4; length++) {
            int n = length;
            refused("length " + n, STATE, () -> t.store(7, n));
        }
        due("the others may be put", t.store(0, 1), 100);
    }

    private static void set() {
        says("SET OUT: the HEAD.");
        due("east", equipped(4).set(50, EAST, 3), 52);
        due("north", equipped(4).set(50, NORTH, 4), 20);
        due("one alone", one(equipped(4)).set(50, NORTH, 1), 50);
        says("IllegalArgumentException: so many are fewer than THE TRAIN is long, or more than CARRIED, "
            + "or a CELL is none, or a well;");
        SandRails s = equipped(4);
        s.store(7, 3);
        for (int many : new int[] {2, 1, 0, -1, LEAST, 5, 16, 100, MOST}) {
            refused("so many as " + many, ARGUMENT, () -> s.set(50, EAST, many));
        }
        refused("a cell beyond", ARGUMENT, () -> s.set(58, EAST, 3));
        s.ground(61, 61, 3);
        refused("the tail on a well", ARGUMENT, () -> s.set(61, EAST, 3));
        refused("the head on a well", ARGUMENT, () -> s.set(63, WEST, 3));
        refused("a well between", ARGUMENT, () -> s.set(51, SOUTH, 3));
        s.ground(61, 61, 0);
        due("just as long as the train", s.set(57, EAST, 3), 59);
        SandRails t = equipped(4);
        due("just as many as carried", t.set(57, NORTH, 4), 27);
        SandRails u = one(equipped(0));
        refused("none carried", ARGUMENT, () -> u.set(50, EAST, 1));
        says("IllegalStateException: it is set out.");
        s.rail(0, 0);
        s.rail(0, 0);
        refused("on other cells", STATE, () -> s.set(0, EAST, 3));
        refused("on the same cells", STATE, () -> s.set(57, EAST, 3));
        due("as it was", s.count(1) * 10 + s.count(2), 33);
    }

    private static SandRails one(SandRails s) {
        s.store(7, 1);
        return s;
    }

    // ---- promises 13 to 20

    private static void lift() {
        says("LIFT: the RAIL. IllegalStateException.");
        SandRails s = equipped(3);
        s.lose(0);
        s.rail(0, 0);
        s.set(0, EAST, 3);
        refused("under the train", STATE, s::lift);
        s.go(false);
        due("the rail's number, not its place", s.lift(), 1);
        due("the front's place is one less", s.count(3), 1);
    }

    private static void lay() {
        says("LAY: the RAIL; NONE if it is SPLIT. IllegalStateException.");
        SandRails s = equipped(2);
        s.rail(98, 0);
        s.rail(99, 0);
        s.set(0, EAST, 2);
        due("the rail", s.lay(EAST), 2);
        due("split", s.lay(EAST), NONE);
        refused("refused is not split", STATE, () -> s.lay(EAST));
    }

    private static void go() {
        says("GO (back false) or BACK: whether it went (not, if it LEAVES). IllegalStateException.");
        SandRails s = equipped(3);
        s.rail(0, 4);
        s.set(0, EAST, 4);
        due("went", s.go(false), true);
        due("leaves", s.go(false), false);
        due("went back", s.go(true), true);
        due("the front", s.count(3), 1);
        refused("no rail", STATE, () -> s.go(true));
    }

    private static void fill() {
        says("FILL: how much WATER came. IllegalStateException.");
        SandRails s = equipped(2);
        s.set(0, EAST, 2);
        refused("no well", STATE, s::fill);
        s.ground(2, 2, 3);
        s.store(2, 0);
        due("all", s.fill(), 30);
        due("nothing", s.fill(), 0);
        s.store(2, 29);
        due("one", s.fill(), 1);
        s.store(2, 10);
        due("20, the thirst is behind it", s.fill(), 20);
        due("water", s.count(6), 29);
        due("minutes", s.count(0), 60);
    }

    private static void dig() {
        says("DIG: the CELL. IllegalStateException.");
        SandRails s = buriedLine(3, 2, 1);
        due("the cell, not its place", s.dig(), 11);
        refused("no more", STATE, s::dig);
        SandRails t = equipped(2);
        t.set(1, WEST, 2);
        t.ground(10, 10, 2);
        t.store(6, 100);
        t.store(8, seedOfWay(NORTH));
        t.rest(1440);
        due("cell 0", t.dig(), 0);
    }

    private static void rest() {
        says("REST: the CLOCK. IllegalArgumentException: the minutes are none.");
        SandRails s = new SandRails();
        due("7", s.rest(7), 7);
        due("1447", s.rest(1440), 1447);
        for (int minutes : new int[] {0, -1, 1441, LEAST, MOST}) {
            refused("rest " + minutes, ARGUMENT, () -> s.rest(minutes));
        }
        due("1448", s.rest(1), 1448);
    }

    private static void run() {
        says("RUN: how many ACTS were done. IllegalArgumentException: so many are none.");
        SandRails s = new SandRails();
        Kit.orders(s, "rest 1;rest 1;dig");
        for (int most : new int[] {0, -1, 201, LEAST, MOST}) {
            refused("most " + most, ARGUMENT, () -> s.run(0, most));
        }
        for (int most = 1; most <= 4; most++) {
            due("most " + most, s.run(0, most), Math.min(2, most));
        }
        due("most 200", s.run(0, 200), 2);
        due("the clock", s.count(0), 1 + 2 + 2 + 2 + 2);
    }

    private static void where() {
        says("WHERE the latest RUN was refused; NONE (also ahead of any).");
        SandRails s = new SandRails();
        due("ahead of any", s.where(), NONE);
        Kit.orders(s, "rest 1;dig");
        due("behind a text alone", s.where(), NONE);
        s.run(0, 2);
        due("refused", s.where(), 7);
        due("told again", s.where(), 7);
        s.run(0, 1);
        due("the latest was not", s.where(), NONE);
        Kit.orders(s, "dig");
        s.run(1, 1);
        due("at 0", s.where(), 0);
    }

    // ---- promises 21 to 27

    private static void look() {
        says("Of a RAIL what 0 WEAR, 1 WIDTH, 2 CELL (NONE if not LAID), 3 0 LAID, 1 CARRIED, 2 SPLIT, 3 LOST, 4 WALKED.");
        SandRails s = rich();
        // wear, width, cell, state, walked: rail 3 was split, 5 is lost, 4 is carried
        int[][] looks = {{0, 0, 10, 0, 1}, {0, 0, 11, 0, 1}, {0, 0, 12, 0, 1}, {99, 0, NONE, 2, 0},
            {98, 4, NONE, 1, 0}, {1, 1, NONE, 3, 0}};
        for (int rail = 0; rail < 6; rail++) {
            for (int what = 0; what <= 4; what++) {
                due("rail " + rail + " what " + what, s.look(rail, what), looks[rail][what]);
            }
        }
        says("NoSuchElementException: another what.");
        for (int what : new int[] {-1, 5, LEAST, MOST}) {
            refused("what " + what, NO_SUCH, () -> s.look(0, what));
            refused("what " + what + " of a lost one", NO_SUCH, () -> s.look(5, what));
        }
    }

    private static void line() {
        says("The CELL (ofRail false) or the RAIL at a place of THE LINE (0 the TAIL); NONE without.");
        SandRails s = equipped(5);
        s.lose(0);
        for (int place : new int[] {0, -1, 1, LEAST, MOST}) {
            due("not set out, place " + place, s.line(place, false), NONE);
            due("not set out, place " + place, s.line(place, true), NONE);
        }
        s.set(3, WEST, 4);
        for (int place = 0; place < 4; place++) {
            due("cell", s.line(place, false), 3 - place);
            due("rail", s.line(place, true), 1 + place);
        }
        for (int place : new int[] {-1, 4, 15, 16, LEAST, MOST}) {
            due("without, place " + place, s.line(place, false), NONE);
            due("without, place " + place, s.line(place, true), NONE);
        }
    }

    private static void route() {
        says("ROUTE: the least MINUTES (what NONE), how many CELLS (-2), "
            + "or the k-th CELL of it (from 0 on; NONE behind it); NONE without a way.");
        SandRails s = equipped(2);
        s.set(0, EAST, 2);
        due("minutes", s.route(4, NONE), 36);
        due("cells", s.route(4, -2), 3);
        int[] cells = {2, 3, 4, NONE, NONE};
        for (int k = 0; k < 5; k++) {
            due("cell " + k, s.route(4, k), cells[k]);
        }
        due("far behind it", s.route(4, MOST), NONE);
        due("cell 0 of the ground", second().route(10, 0), 0);
        s.store(2, 2);
        for (int what = -2; what < 3; what++) {
            due("without a way, what " + what, s.route(4, what), NONE);
        }
        says("IllegalArgumentException: the CELL is a well or of THE LINE, or what is below -2; "
            + "IllegalStateException: it is not set out.");
        s.ground(9, 9, 3);
        refused("a well", ARGUMENT, () -> s.route(9, 0));
        refused("the head", ARGUMENT, () -> s.route(1, 0));
        refused("the tail", ARGUMENT, () -> s.route(0, NONE));
        refused("what -3", ARGUMENT, () -> s.route(4, -3));
        refused("what far below", ARGUMENT, () -> s.route(4, LEAST));
        refused("not set out", STATE, () -> new SandRails().route(4, 0));
    }

    /** The head on 1, the tail on 2, a well on 11: to 10 one comes by cell 0 alone. */
    private static SandRails second() {
        SandRails s = equipped(2);
        s.ground(11, 11, 3);
        s.set(2, WEST, 2);
        return s;
    }

    private static void reach() {
        says("REACH; NONE without a ROUTE. IllegalArgumentException, IllegalStateException likewise; "
            + "also IllegalArgumentException: minutes are below 0.");
        SandRails s = equipped(2);
        s.set(0, EAST, 2);
        due("none", s.reach(4, 0), 0);
        due("none", s.reach(4, 11), 0);
        due("one", s.reach(4, 12), 1);
        due("two", s.reach(4, 35), 2);
        due("all", s.reach(4, 36), 3);
        due("all", s.reach(4, MOST), 3);
        s.ground(9, 9, 3);
        refused("a well", ARGUMENT, () -> s.reach(9, 0));
        refused("the head", ARGUMENT, () -> s.reach(1, 0));
        refused("the tail", ARGUMENT, () -> s.reach(0, 0));
        refused("minutes -1", ARGUMENT, () -> s.reach(4, -1));
        refused("minutes far below", ARGUMENT, () -> s.reach(4, LEAST));
        refused("not set out", STATE, () -> new SandRails().reach(4, 0));
        s.store(2, 2);
        due("without a route", s.reach(4, 0), NONE);
        due("without a route", s.reach(4, MOST), NONE);
    }

    private static void joints() {
        says("JOINTS: the greatest difference (first false; 0 without two RAILS), or the first place; NONE.");
        SandRails s = one(new SandRails());
        due("not set out", s.joints(false), 0);
        due("not set out", s.joints(true), NONE);
        s.rail(0, 9);
        s.set(0, EAST, 1);
        due("one rail", s.joints(false), 0);
        due("one rail", s.joints(true), NONE);
        s.gang(9, 1);
        s.task(0, 2);
        s.store(0, 9);
        s.rail(0, -9);
        s.store(8, seedOfThree(0));
        s.lay(EAST);
        due("two rails", s.joints(false), 18);
        due("the first place", s.joints(true), 0);
        s.store(5, 18);
        due("none by 18", s.joints(true), NONE);
    }

    private static void worn() {
        says("WORN; NONE.");
        SandRails s = new SandRails();
        due("no rails", s.worn(), NONE);
        s.rail(3, 0);
        due("the one", s.worn(), 0);
        s.rail(4, 0);
        due("the worse", s.worn(), 1);
        s.rail(4, 0);
        due("of two the least", s.worn(), 1);
        s.lose(1);
        s.lose(2);
        s.lose(0);
        due("all are gone", s.worn(), NONE);
    }

    private static void few() {
        says("Whether RAILS that are not gone are more than THE TRAIN is long.");
        SandRails s = new SandRails();
        s.rail(0, 0);
        s.rail(0, 0);
        due("two of two", s.few(), false);
        s.rail(0, 0);
        due("three of two", s.few(), true);
        s.store(7, 3);
        due("three of three", s.few(), false);
        s.store(7, 1);
        s.lose(0);
        due("two of one", s.few(), true);
        s.lose(1);
        due("one of one", s.few(), false);
    }

    // ---- promises 28 to 34

    private static void steal() {
        says("STOLEN: how many were. IllegalArgumentException: below 0.");
        SandRails s = new SandRails();
        s.store(0, 3);
        refused("-1", ARGUMENT, () -> s.steal(-1));
        refused("far below", ARGUMENT, () -> s.steal(LEAST));
        due("none", s.steal(0), 0);
        due("two", s.steal(2), 2);
        due("of one", s.steal(2), 1);
        due("of none", s.steal(2), 0);
    }

    private static void lose() {
        says("LOST. IllegalStateException: it is not CARRIED.");
        SandRails s = equipped(4);
        s.set(0, EAST, 3);
        refused("laid", STATE, () -> { s.lose(2); return 0; });
        s.go(false);
        s.lift();
        s.lose(0);
        due("lifted, then lost", s.look(0, 3), 3);
        refused("lost", STATE, () -> { s.lose(0); return 0; });
        due("the next one is laid", s.lay(EAST), 3);
    }

    private static void which() {
        says("WHICH.");
        SandRails s = equipped(2);
        s.set(98, EAST, 2);
        due("the last cell", s.which(99, 0), 1);
        due("ahead of it", s.which(99, -1), NONE);
        due("a cell without", s.which(97, 0), NONE);
        refused("cell 100", INDEX, () -> s.which(100, 0));
    }

    private static void ahead() {
        says("AHEAD: RAILS (dunes false), or dunes. IllegalArgumentException: nights are none.");
        SandRails s = buriedLine(4, 2, 0, 3);
        s.ground(50, 54, 2);
        due("rails now", s.ahead(0, false), 2);
        due("dunes now", s.ahead(0, true), 7);
        due("30 nights without wind", s.ahead(30, false), 2);
        refused("31", ARGUMENT, () -> s.ahead(31, false));
        refused("-1", ARGUMENT, () -> s.ahead(-1, true));
    }

    private static void image() {
        says("THE IMAGE is kept.");
        SandRails s = new SandRails();
        s.image();
        s.rest(5);
        s.image();
        s.rest(5);
        s.image();
        due("the clock goes on", s.count(0), 10);
        s.rest(5);
        s.back();
        due("the last one", s.count(0), 10);
        s.rest(1);
        s.back();
        due("again", s.count(0), 10);
    }

    private static void back() {
        says("One goes back to THE IMAGE: true; false, and nothing happens, if none was kept.");
        SandRails s = rich();
        String before = state(s, 6, 3);
        due("none was kept", s.back(), false);
        due("nothing happened", state(s, 6, 3), before);
        s.image();
        due("back at once", s.back(), true);
        SandRails t = new SandRails();
        t.image();
        t.rail(0, 0);
        t.rail(0, 0);
        t.set(0, EAST, 2);
        due("back", t.back(), true);
        due("not set out any more", t.count(3), NONE);
        due("the length may be put", t.store(7, 1), 2);
        refused("no rails", INDEX, () -> t.look(0, 0));
        due("the log is empty", t.which(0, 0), NONE);
        due("rail 0 again", t.rail(5, 5), 0);
        due("it is a new one", t.look(0, 0) * 10 + t.look(0, 3), 51);
    }

    private static void count() {
        says("0 CLOCK, 1 CELLS of THE LINE, 2 CARRIED RAILS, 3 the place of the FRONT (NONE if it is not set out), "
            + "4 PLATES, 5 WOOD, 6 WATER, 7 DRY (NONE), 8 BURIED RAILS, 9 dunes, 10 MEN, 11 entries of LOG, "
            + "12 how often THE TRAIN has LEFT. NONE for another what.");
        SandRails s = new SandRails();
        int[] first = {0, 0, 0, NONE, 0, 0, 0, NONE, 0, 0, 0, 0, 0};
        for (int what = 0; what <= 12; what++) {
            due("at first " + what, s.count(what), first[what]);
        }
        SandRails t = buriedLine(5, 3, 4, 3);
        t.rail(0, 0);
        t.gang(1, 27);
        t.store(0, 11);
        t.store(1, 22);
        t.store(2, 0);
        t.rest(60);
        t.store(2, 13);
        t.ground(90, 93, 2);
        int[] then = {1500, 5, 1, 2, 11, 22, 13, 1500, 2, 6, 30, 5, 0};
        for (int what = 0; what <= 12; what++) {
            due("then " + what, t.count(what), then[what]);
        }
        for (int what : new int[] {-1, 13, -2, LEAST, MOST}) {
            due("another what", t.count(what), NONE);
        }
        SandRails u = equipped(2);
        u.rail(0, 9);
        u.set(0, EAST, 3);
        for (int left = 1; left <= 3; left++) {
            u.go(false);
            due("left", u.count(12), left);
        }
        u.lose(u.rail(0, 0));
        due("a lost one is not carried", u.count(2), 0);
    }

    private static void wholeLife() {
        says("An object is used for at most 512 calls after it has been made; what later calls answer is free.");
        SandRails s = new SandRails();
        for (int i = 1; i <= 512; i++) {
            due("call " + i, s.rest(1), i);
        }
    }
}
