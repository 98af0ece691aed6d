/** The sentences of "Terms", ==== 1, each with its edges. */
public final class EdgeTermsTest extends Kit {
    private EdgeTermsTest() { }

    public static void main(String[] args) {
        begin("EdgeTermsTest");
        cells();
        kinds();
        ways();
        rails();
        statesOfRails();
        line();
        train();
        setOutByNumbers();
        setOutTrain();
        setOutIsFree();
        gangs();
        stores();
        steam();
        thirst();
        limit();
        clock();
        hours();
        dry();
        nights();
        menAsTheyAre();
        draw();
        wayOfTheWind();
        drawsByNumbers();
        belowWind();
        beyondTheGround();
        sandBecomesADune();
        whereItDoesNotLeave();
        cellsAsTheyAreThen();
        buried();
        end();
    }

    // ---- the ground

    private static void cells() {
        says("GROUND: CELLS 0 to 99: number 10 y and x.");
        SandRails s = new SandRails();
        due("the first cell", s.kind(0), 0);
        due("the last cell", s.kind(99), 0);
        refused("ahead of the first", INDEX, () -> s.kind(-1));
        refused("behind the last", INDEX, () -> s.kind(100));
        refused("far ahead", INDEX, () -> s.kind(LEAST));
        refused("far behind", INDEX, () -> s.kind(MOST));
        s.ground(12, 34, 1);
        for (int y = 0; y < 10; y++) {
            for (int x = 0; x < 10; x++) {
                boolean isIn = y >= 1 && y <= 3 && x >= 2 && x <= 4;
                due("y " + y + " x " + x, s.kind(10 * y + x), isIn ? 1 : 0);
            }
        }
    }

    private static void kinds() {
        says("KIND 0 sand (at first), 1 rock, 2 dune, 3 well.");
        SandRails s = new SandRails();
        for (int cell = 0; cell < 100; cell++) {
            due("at first " + cell, s.kind(cell), 0);
        }
        for (int kind = 3; kind >= 0; kind--) {
            int k = kind;
            due("put", s.ground(99, 99, k), 1);
            due("kind", s.kind(99), k);
        }
        refused("below", ARGUMENT, () -> s.ground(99, 99, -1));
        refused("above", ARGUMENT, () -> s.ground(99, 99, 4));
        refused("far below", ARGUMENT, () -> s.ground(99, 99, LEAST));
        refused("far above", ARGUMENT, () -> s.ground(99, 99, MOST));
        due("as it was", s.kind(99), 0);
    }

    private static void ways() {
        says("WAYS: 0 y less 1, 1 x more, 2 y more, 3 x less.");
        int[] from55 = {45, 56, 65, 54};
        int[] onEdges = {4, 49, 94, 40};
        int[] aheadOfEdges = {14, 48, 84, 41};
        for (int way = 0; way < 4; way++) {
            int w = way;
            due("set way " + way, equipped(2).set(55, way, 2), from55[way]);
            due("to the edge, way " + way, equipped(2).set(aheadOfEdges[way], way, 2), onEdges[way]);
            SandRails s = equipped(3);
            refused("over the edge, way " + way, ARGUMENT, () -> s.set(onEdges[w], w, 2));
            s.set(aheadOfEdges[way], way, 2);
            refused("laid over the edge, way " + way, STATE, () -> s.lay(w));
            SandRails t = equipped(3);
            t.store(7, 1);
            t.set(55, way, 1);
            due("lay way " + way, t.lay(way), 1);
            due("its cell", t.line(1, false), from55[way]);
        }
        SandRails s = equipped(3);
        for (int way : new int[] {-1, 4, LEAST, MOST}) {
            refused("set way " + way, INDEX, () -> s.set(55, way, 2));
        }
        s.set(55, EAST, 2);
        for (int way : new int[] {-1, 4, LEAST, MOST}) {
            refused("lay way " + way, INDEX, () -> s.lay(way));
        }
    }

    // ---- rails, line and train

    private static void rails() {
        says("RAILS (at most 16, numbered from 0 on): WEAR (0 to 99), WIDTH (- 9 to 9);");
        SandRails s = new SandRails();
        for (int wear : new int[] {-1, 100, LEAST, MOST}) {
            refused("wear " + wear, ARGUMENT, () -> s.rail(wear, 0));
        }
        for (int width : new int[] {-10, 10, LEAST, MOST}) {
            refused("width " + width, ARGUMENT, () -> s.rail(0, width));
        }
        due("the least of both", s.rail(0, -9), 0);
        due("the most of both", s.rail(99, 9), 1);
        due("wear 0", s.look(0, 0), 0);
        due("width -9", s.look(0, 1), -9);
        due("wear 99", s.look(1, 0), 99);
        due("width 9", s.look(1, 1), 9);
        for (int i = 2; i < 16; i++) {
            due("rail", s.rail(i, 0), i);
        }
        refused("a 17th", FULL, () -> s.rail(0, 0));
        s.lose(0);
        refused("one that is gone makes no room", FULL, () -> s.rail(0, 0));
        due("15 are carried", s.count(2), 15);
    }

    private static void statesOfRails() {
        says("each is LAID on a CELL, CARRIED, or gone (SPLIT, or LOST).");
        SandRails s = equipped(2);
        s.rail(99, 0);
        s.rail(0, 0);
        s.rail(0, 0);
        s.set(40, EAST, 2);
        s.lay(EAST);
        s.lose(3);
        int[] states = {0, 0, 2, 3, 1};
        int[] cells = {40, 41, NONE, NONE, NONE};
        for (int rail = 0; rail < 5; rail++) {
            due("state of " + rail, s.look(rail, 3), states[rail]);
            due("cell of " + rail, s.look(rail, 2), cells[rail]);
        }
        due("one is carried", s.count(2), 1);
        due("two are laid", s.count(1), 2);
        refused("a sixth", INDEX, () -> s.look(5, 3));
    }

    private static void line() {
        says("THE LINE: a row of CELLS with one RAIL each, from the TAIL on, each beside the one ahead of it; "
            + "its last one is the HEAD.");
        SandRails s = equipped(6);
        due("empty", s.line(0, false), NONE);
        due("empty", s.line(0, true), NONE);
        due("the head", s.set(55, EAST, 3), 57);
        s.lay(NORTH);
        s.lay(WEST);
        s.lay(WEST);
        int[] cells = {55, 56, 57, 47, 46, 45};
        for (int i = 0; i < 6; i++) {
            due("cell " + i, s.line(i, false), cells[i]);
            due("rail " + i, s.line(i, true), i);
        }
        due("behind the head", s.line(6, false), NONE);
        due("ahead of the tail", s.line(-1, false), NONE);
        s.go(false);
        s.lift();
        due("the next one is the tail", s.line(0, false), 56);
        s.lay(WEST);
        due("the new one is the head", s.line(5, false), 44);
        due("of the rail that was lifted", s.line(5, true), 0);
        SandRails t = equipped(1);
        t.store(7, 1);
        due("tail and head in one", t.set(99, WEST, 1), t.line(0, false));
        due("one cell", t.count(1), 1);
        lineOfOne();
    }

    /** A line of one cell is a line. */
    private static void lineOfOne() {
        SandRails s = equipped(3);
        s.store(7, 1);
        s.set(55, EAST, 1);
        due("its front", s.count(3), 0);
        refused("it is set out", STATE, () -> s.set(0, EAST, 1));
        refused("the train is so long", STATE, () -> s.store(7, 1));
        refused("under the train", STATE, s::lift);
        refused("no rail ahead", STATE, () -> s.go(false));
        refused("no rail behind", STATE, () -> s.go(true));
        refused("no well", STATE, s::fill);
        s.ground(54, 54, 3);
        due("a well", s.fill(), 0);
        due("a route", s.route(57, NONE), 24);
        due("a reach", s.reach(57, 12), 1);
        due("a rail to it", s.lay(EAST), 1);
        due("the train goes", s.go(false), true);
        due("and is one cell again", s.lift(), 0);
        due("one cell", s.count(1), 1);
        due("its front", s.count(3), 0);
        due("a rail to it", s.lay(EAST), 0);
    }

    private static void train() {
        says("THE TRAIN is so many CELLS long (1 to 4) and stands on as many of THE LINE one behind another; "
            + "its FRONT is the one nearest to the HEAD.");
        SandRails s = equipped(6);
        for (int length : new int[] {0, 5, -1, LEAST, MOST}) {
            refused("length " + length, ARGUMENT, () -> s.store(7, length));
        }
        for (int length = 1; length <= 4; length++) {
            SandRails t = equipped(6);
            t.store(7, length);
            t.set(10, EAST, 6);
            due("front of " + length, t.count(3), length - 1);
            refused("it stands on the tail", STATE, t::lift);
            t.go(false);
            due("front of " + length, t.count(3), length);
            due("it stands there no longer", t.lift(), 0);
            refused("it stands on the next", STATE, t::lift);
            due("front of " + length, t.count(3), length - 1);
            for (int i = length; i < 5; i++) {
                due("go", t.go(false), true);
            }
            due("front at the head", t.count(3), 4);
            for (int i = length; i < 5; i++) {
                t.lift();
            }
            due("as many cells as it is long", t.count(1), length);
            refused("it stands on all", STATE, t::lift);
            refused("and goes nowhere", STATE, () -> t.go(false));
            refused("nor back", STATE, () -> t.go(true));
        }
    }

    private static void setOutByNumbers() {
        says("SET OUT: from a CELL so many CELLS one WAY, with as many of the RAILS that are CARRIED, by numbers;");
        SandRails s = equipped(16);
        s.lose(0);
        s.lose(3);
        refused("11 cells in a row", ARGUMENT, () -> s.set(90, EAST, 11));
        refused("10 cells from the second", ARGUMENT, () -> s.set(91, EAST, 10));
        due("10 cells in a row", s.set(90, EAST, 10), 99);
        int[] rails = {1, 2, 4, 5, 6, 7, 8, 9, 10, 11};
        for (int i = 0; i < 10; i++) {
            due("rail " + i, s.line(i, true), rails[i]);
            due("cell " + i, s.line(i, false), 90 + i);
        }
        due("four are carried still", s.count(2), 4);
        SandRails t = equipped(3);
        refused("more than are carried", ARGUMENT, () -> t.set(0, EAST, 4));
        due("all that are carried", t.set(0, EAST, 3), 2);
        due("none is carried", t.count(2), 0);
    }

    private static void setOutTrain() {
        says("THE TRAIN on the first CELLS of it, from the TAIL on.");
        for (int length = 1; length <= 4; length++) {
            SandRails s = equipped(5);
            s.store(7, length);
            s.set(0, SOUTH, 5);
            due("front", s.count(3), length - 1);
            refused("nothing is behind it", STATE, () -> s.go(true));
            for (int i = length; i < 5; i++) {
                due("cells are ahead", s.go(false), true);
            }
            refused("no more are ahead", STATE, () -> s.go(false));
        }
    }

    private static void setOutIsFree() {
        says("A dune on which a RAIL is LAID is sand then. (No PLATES, WEAR, MINUTES.)");
        SandRails s = new SandRails();
        s.rail(99, 9);
        s.rail(99, -9);
        s.rail(0, 0);
        s.ground(0, 1, 2);
        s.ground(2, 2, 1);
        s.store(8, 5);
        due("set without plates and gangs", s.set(0, EAST, 3), 2);
        due("a dune is sand", s.kind(0), 0);
        due("and the next", s.kind(1), 0);
        due("rock is rock", s.kind(2), 1);
        due("none is buried", s.count(8), 0);
        due("no dunes", s.count(9), 0);
        due("wear 99 does not split", s.look(0, 3) * 100 + s.look(0, 0), 99);
        due("no wear on rock", s.look(2, 0), 0);
        due("no draw for its width", s.look(1, 1), -9);
        due("no draw at all", s.store(8, 1), 5);
        due("no plates", s.count(4), 0);
        due("no minutes", s.count(0), 0);
    }

    // ---- gangs and stores

    private static void gangs() {
        says("GANGS (at most 4, numbered from 0 on): STRENGTH (1 to 9), MEN (1 to 30), "
            + "TASK 0 none, 1 lifting, 2 laying, 3 digging (0 at first).");
        SandRails s = new SandRails();
        for (int strength : new int[] {0, 10, -1, LEAST, MOST}) {
            refused("strength " + strength, ARGUMENT, () -> s.gang(strength, 1));
        }
        for (int men : new int[] {0, 31, -1, LEAST, MOST}) {
            refused("men " + men, ARGUMENT, () -> s.gang(1, men));
        }
        refused("no gang", INDEX, () -> s.task(0, 0));
        due("the least of both", s.gang(1, 1), 0);
        due("a man", s.count(10), 1);
        due("the most of both", s.gang(9, 30), 1);
        due("31 men", s.count(10), 31);
        due("a third", s.gang(5, 5), 2);
        refused("gang 3 is none yet", INDEX, () -> s.task(3, 0));
        due("a fourth", s.gang(5, 5), 3);
        refused("a fifth", FULL, () -> s.gang(5, 5));
        refused("gang 4", INDEX, () -> s.task(4, 0));
        for (int gang = 0; gang < 4; gang++) {
            due("at first", s.task(gang, 3), 0);
            due("digging", s.task(gang, 2), 3);
            due("laying", s.task(gang, 1), 2);
            due("lifting", s.task(gang, 0), 1);
            due("none", s.task(gang, 0), 0);
        }
        for (int task : new int[] {-1, 4, LEAST, MOST}) {
            refused("task " + task, ARGUMENT, () -> s.task(0, task));
        }
        tasksDo();
    }

    /** Each task allows its act and no other one. */
    private static void tasksDo() {
        for (int task = 0; task <= 3; task++) {
            SandRails s = buriedLine(5, 2, 4);
            s.rail(0, 0);
            s.go(false);
            for (int gang = 0; gang < 3; gang++) {
                s.task(gang, task);
            }
            if (task == 1) {
                due("lifts", s.lift(), 0);
            } else {
                refused("task " + task + " does not lift", STATE, s::lift);
            }
            if (task == 2) {
                due("lays", s.lay(NORTH), 5);
            } else {
                refused("task " + task + " does not lay", STATE, () -> s.lay(NORTH));
            }
            if (task == 3) {
                due("digs", s.dig(), 14);
            } else {
                refused("task " + task + " does not dig", STATE, s::dig);
            }
        }
    }

    private static void stores() {
        says("STORES: PLATES, WOOD (0 to 9999 each), WATER (0 to TANK; TANK 1 to 60, 30 at first).");
        SandRails s = new SandRails();
        for (int what = 0; what <= 1; what++) {
            int w = what;
            for (int n : new int[] {-1, 10000, LEAST, MOST}) {
                refused("store " + what + " of " + n, ARGUMENT, () -> s.store(w, n));
            }
            due("none at first", s.store(what, 9999), 0);
            due("the most", s.store(what, 0), 9999);
            due("the least", s.count(4 + what), 0);
        }
        for (int n : new int[] {-1, 31, LEAST, MOST}) {
            refused("water of " + n, ARGUMENT, () -> s.store(2, n));
        }
        due("no water at first", s.store(2, 30), 0);
        due("as much as the tank holds", s.store(2, 0), 30);
        for (int n : new int[] {0, 61, -1, LEAST, MOST}) {
            refused("tank of " + n, ARGUMENT, () -> s.store(3, n));
        }
        due("the tank at first", s.store(3, 60), 30);
        due("more water", s.store(2, 60), 0);
        refused("above the greatest tank", ARGUMENT, () -> s.store(2, 61));
        due("the least tank", s.store(3, 1), 60);
        due("its water", s.count(6), 1);
        refused("above the least tank", ARGUMENT, () -> s.store(2, 2));
        due("none in the least tank", s.store(2, 0), 1);
    }

    private static void steam() {
        says("STEAM: WATER for each CELL that THE TRAIN goes (0 to 9; 1 at first).");
        SandRails s = equipped(6);
        s.set(0, EAST, 6);
        for (int n : new int[] {-1, 10, LEAST, MOST}) {
            refused("steam " + n, ARGUMENT, () -> s.store(4, n));
        }
        s.store(2, 1);
        due("one at first", s.go(false), true);
        due("it is gone", s.count(6), 0);
        refused("without water", STATE, () -> s.go(false));
        due("it was 1", s.store(4, 0), 1);
        due("no steam needs no water", s.go(false), true);
        s.store(4, 9);
        s.store(2, 8);
        refused("9 of 8", STATE, () -> s.go(false));
        s.store(2, 9);
        due("9 of 9", s.go(false), true);
        due("none is left", s.count(6), 0);
        s.store(2, 30);
        due("back, too", s.go(true), true);
        due("9 of 30", s.count(6), 21);
    }

    private static void thirst() {
        says("THIRST: WATER for each full 60 minutes (of the clock): all MEN by 20, rounded up.");
        int[][] gangs = {{}, {1}, {20}, {21}, {20, 20}, {20, 20, 1}, {30, 30, 30, 30}, {30, 30, 30, 11}, {10, 10, 1}};
        int[] thirst = {0, 1, 1, 2, 2, 3, 6, 6, 2};
        for (int i = 0; i < gangs.length; i++) {
            SandRails s = new SandRails();
            for (int men : gangs[i]) {
                s.gang(1, men);
            }
            s.store(2, 30);
            s.rest(60);
            due(s.count(10) + " men", 30 - s.count(6), thirst[i]);
            s.rest(120);
            due(s.count(10) + " men, two hours more", 30 - s.count(6), 3 * thirst[i]);
        }
        SandRails s = new SandRails();
        s.gang(1, 1);
        s.store(2, 30);
        s.rest(30);
        s.rest(29);
        due("59 minutes", s.count(6), 30);
        s.rest(1);
        due("60 minutes of the clock", s.count(6), 29);
        s.rest(59);
        due("119", s.count(6), 29);
        s.rest(2);
        due("121", s.count(6), 28);
    }

    private static void limit() {
        says("LIMIT (0 to 18; 3 at first): THE TRAIN does not pass from a RAIL to the next one "
            + "if their WIDTHS differ by more.");
        SandRails s = new SandRails();
        for (int n : new int[] {-1, 19, LEAST, MOST}) {
            refused("limit " + n, ARGUMENT, () -> s.store(5, n));
        }
        due("at first", s.store(5, 18), 3);
        due("the most", s.store(5, 0), 18);
        due("the least", s.store(5, 0), 0);
        int[][] cases = {{0, 0, 0}, {0, 1, 0}, {0, -1, 0}, {-9, 9, 18}, {9, -9, 18}, {-9, 9, 17}, {9, -9, 17},
            {0, 3, 3}, {0, 4, 3}, {3, 0, 3}, {4, 0, 3}, {-1, 2, 3}, {-2, 2, 3}};
        for (int[] c : cases) {
            SandRails t = new SandRails();
            t.store(7, 1);
            t.rail(0, c[0]);
            t.rail(0, c[1]);
            t.set(0, EAST, 2);
            t.store(1, 1);
            t.store(2, 1);
            t.store(5, c[2]);
            due(c[0] + " to " + c[1] + " by " + c[2], t.go(false), Math.abs(c[0] - c[1]) <= c[2]);
        }
    }

    // ---- the clock

    private static void clock() {
        says("CLOCK: minutes from 0 on.");
        SandRails s = equipped(4);
        due("at first", s.count(0), 0);
        s.set(0, EAST, 4);
        due("setting out is no act", s.count(0), 0);
        s.route(50, NONE);
        s.ahead(30, true);
        due("nor is a question", s.count(0), 0);
        due("a minute", s.rest(1), 1);
        due("a day more", s.rest(1440), 1441);
        s.store(2, 30);
        s.go(false);
        due("two more", s.count(0), 1443);
    }

    private static void hours() {
        says("An ACT takes its MINUTES; then each full 60 minutes that the clock has come to: "
            + "WATER is less by THIRST, 0 at least");
        SandRails s = equipped(4);
        s.rest(59);
        due("59", s.count(6), 30);
        s.rest(1);
        due("60", s.count(6), 29);
        s.rest(1);
        due("61: not again", s.count(6), 29);
        s.rest(58);
        due("119", s.count(6), 29);
        s.rest(121);
        due("240: three in one act", s.count(6), 26);
        s.rest(1440);
        due("24 in one act", s.count(6), 2);
        s.rest(180);
        due("0 at least", s.count(6), 0);
        s.rest(60);
        due("and stays", s.count(6), 0);
        SandRails t = equipped(4);
        t.set(0, EAST, 4);
        t.rest(59);
        t.store(2, 1);
        due("the act ahead of the thirst", t.go(false), true);
        due("its water, then none for the men", t.count(6), 0);
        due("dry at the hour", t.count(7), 60);
        SandRails u = new SandRails();
        for (int i = 0; i < 4; i++) {
            u.gang(1, 30);
        }
        u.store(2, 7);
        u.rest(120);
        due("less than there is", u.count(6), 0);
    }

    private static void dry() {
        says("(DRY: the first such minute at which there was not enough);");
        SandRails s = new SandRails();
        s.gang(1, 21);
        due("none at first", s.count(7), NONE);
        s.store(2, 4);
        s.rest(120);
        due("just enough", s.count(7), NONE);
        due("none is left", s.count(6), 0);
        s.rest(59);
        due("not yet", s.count(7), NONE);
        s.rest(1);
        due("nothing for 2", s.count(7), 180);
        s.store(2, 30);
        s.rest(60);
        s.store(2, 0);
        s.rest(60);
        due("the first one stays", s.count(7), 180);
        SandRails t = new SandRails();
        t.gang(1, 21);
        t.store(2, 5);
        t.rest(1440);
        due("a minute within the act", t.count(7), 180);
        due("0 at least", t.count(6), 0);
        SandRails u = new SandRails();
        u.rest(1440);
        due("no men, no thirst", u.count(7), NONE);
    }

    private static void nights() {
        says("then each full 1440: a NIGHT.");
        SandRails s = equipped(6);
        s.rest(1439);
        due("1439", s.store(8, 1), 1);
        s.rest(1);
        due("1440", s.store(8, 1), seedAfter(1));
        s.rest(1439);
        due("2879", s.store(8, 1), 1);
        s.set(0, EAST, 3);
        s.store(2, 30);
        s.go(false);
        due("2881, by a train", s.store(8, 1), seedAfter(1));
        s.rest(1440);
        due("4321, one for a day", s.store(8, 1), seedAfter(1));
        s.rest(1430);
        due("5751", s.store(8, 1), 1);
        s.store(2, 30);
        s.lift();
        due("5759, by a lift", s.store(8, 1), 1);
        s.lay(EAST);
        due("5773: a width, then a night", s.store(8, 1), seedAfter(1, 2));
        due("the clock", s.count(0), 5773);
        SandRails t = new SandRails();
        orders(t, "again 99 ( rest 1440 )");
        due("99 days", t.run(0, 200), 99);
        due("99 nights", t.store(8, 1), seedAfter(1, 99));
    }

    private static void menAsTheyAre() {
        says("(THIRST by MEN as they are.)");
        SandRails s = new SandRails();
        s.store(2, 30);
        s.rest(59);
        s.gang(1, 30);
        s.rest(1);
        due("a gang of the last minute drinks", s.count(6), 28);
        s.gang(1, 30);
        s.rest(60);
        due("another one", s.count(6), 25);
        s.task(0, 3);
        s.rest(60);
        due("whatever they do", s.count(6), 22);
    }

    // ---- the wind

    private static void draw() {
        says("NIGHT: DRAW: SEED is 1103515245 times SEED and 12345, as an int that goes round; bits 16 to 30.");
        int[] seeds = {1, 0, -1, MOST, LEAST, 2, 65536, -65536, 123456789};
        int[] after = {1103527590, 12345, -1103502900, 1043980748, -2147471303, -2087924461, 0, 0, 0};
        for (int i = 0; i < seeds.length; i++) {
            SandRails s = new SandRails();
            s.store(8, seeds[i]);
            s.rest(1440);
            int got = s.store(8, 0);
            due("seed behind " + seeds[i], got, i < 6 ? after[i] : seedAfter(seeds[i]));
        }
        // Bit 31 is none of them: with it a draw modulo 3 would be another one.
        int negative = 0;
        for (int seed = 1; seed <= 40; seed++) {
            SandRails s = equipped(3);
            s.set(0, EAST, 2);
            s.store(8, seed);
            s.lay(EAST);
            due("width by seed " + seed, s.look(2, 1), drawOf(seed, 1) % 3 - 1);
            due("one draw", s.store(8, 0), seedAfter(seed));
            negative += seedAfter(seed) < 0 ? 1 : 0;
        }
        due("some went round", negative > 5, true);
    }

    private static void wayOfTheWind() {
        says("One DRAW modulo 4: the WAY of the wind.");
        int[] to = {45, 56, 65, 54};
        for (int way = 0; way < 4; way++) {
            SandRails s = new SandRails();
            s.ground(55, 55, 2);
            s.store(6, 100);
            s.store(8, seedOfWay(way));
            s.rest(1440);
            due("way " + way, s.kind(to[way]), 2);
            due("one dune", s.count(9), 1);
        }
        SandRails s = new SandRails();
        s.rest(1440);
        due("a draw without a dune", s.store(8, 0), seedAfter(1));
    }

    private static void drawsByNumbers() {
        says("Then CELLS that were dunes ahead of it, by numbers: one DRAW modulo 100 each;");
        int seed = 1;
        while (drawOf(seed, 1) % 4 != NORTH || drawOf(seed, 2) % 100 >= 50 || drawOf(seed, 3) % 100 < 50) {
            seed++;
        }
        SandRails s = new SandRails();
        s.ground(78, 78, 2);
        s.ground(52, 52, 2);
        s.store(6, 50);
        s.store(8, seed);
        s.rest(1440);
        due("the first by number leaves", s.kind(42), 2);
        due("the second one stays", s.kind(78), 2);
        due("three draws", s.store(8, 0), seedAfter(seed, 3));
        // A dune that came to a later cell was none there ahead of the night.
        for (int way = EAST; way <= SOUTH; way++) {
            SandRails t = new SandRails();
            t.ground(0, 0, 2);
            t.store(6, 100);
            t.store(8, seedOfWay(way));
            t.rest(1440);
            due("a cell on, way " + way, t.kind(way == EAST ? 1 : 10), 2);
            due("two draws", t.store(8, 0), seedAfter(seedOfWay(way), 2));
        }
        SandRails u = new SandRails();
        u.ground(0, 99, 2);
        u.store(8, 3);
        u.rest(1440);
        due("100 dunes, 101 draws", u.store(8, 0), seedAfter(3, 101));
        SandRails v = new SandRails();
        v.ground(0, 99, 3);
        v.ground(55, 55, 2);
        v.store(6, 100);
        v.store(8, 3);
        v.rest(1440);
        due("a dune that cannot leave has its draw", v.store(8, 0), seedAfter(3, 2));
    }

    private static void belowWind() {
        says("if it is below WIND (0 to 100; 0 at first): the dune leaves its CELL (sand then) "
            + "for the next CELL that WAY:");
        SandRails s = new SandRails();
        for (int n : new int[] {-1, 101, LEAST, MOST}) {
            refused("wind " + n, ARGUMENT, () -> s.store(6, n));
        }
        due("at first", s.store(6, 100), 0);
        due("the most", s.store(6, 0), 100);
        int[][] cases = {{0, 0, 0}, {0, 1, 1}, {99, 99, 0}, {99, 100, 1}, {50, 50, 0}, {50, 51, 1}};
        for (int[] c : cases) {
            SandRails t = new SandRails();
            t.ground(55, 55, 2);
            t.store(6, c[1]);
            t.store(8, seedOfWind(WEST, c[0]));
            t.rest(1440);
            due("draw " + c[0] + ", wind " + c[1], t.kind(55) * 10 + t.kind(54), c[2] == 1 ? 2 : 20);
        }
        SandRails u = new SandRails();
        u.ground(55, 55, 2);
        u.store(8, seedOfWind(WEST, 0));
        u.rest(1440);
        due("without wind at first", u.kind(55), 2);
    }

    private static void beyondTheGround() {
        says("beyond the GROUND it is gone;");
        int[][] edges = {{0, 5, 9}, {9, 49, 99}, {90, 95, 99}, {0, 50, 90}};
        for (int way = 0; way < 4; way++) {
            for (int cell : edges[way]) {
                SandRails s = new SandRails();
                s.ground(cell, cell, 2);
                s.store(6, 100);
                s.store(8, seedOfWay(way));
                s.rest(1440);
                due("from " + cell + " way " + way, s.count(9), 0);
                due("sand then", s.kind(cell), 0);
            }
        }
    }

    private static void sandBecomesADune() {
        says("sand becomes a dune;");
        SandRails s = equipped(3);
        s.ground(0, 0, 2);
        s.ground(4, 4, 2);
        s.set(10, EAST, 3);
        s.store(6, 100);
        s.store(8, seedOfWay(SOUTH));
        s.rest(1440);
        due("free sand", s.kind(14), 2);
        due("sand with a rail on it", s.kind(10), 2);
        due("sand beside", s.kind(13), 0);
        due("two dunes", s.count(9), 2);
    }

    private static void whereItDoesNotLeave() {
        says("on rock, a well, or a dune it does not leave.");
        for (int kind = 1; kind <= 3; kind++) {
            SandRails s = new SandRails();
            s.ground(55, 55, 2);
            s.ground(56, 56, kind);
            // The next one is blocked, too, so that a dune ahead stays one.
            s.ground(57, 57, 3);
            s.store(6, 100);
            s.store(8, seedOfWay(EAST));
            s.rest(1440);
            due("before kind " + kind, s.kind(55), 2);
            due("it is what it was", s.kind(56), kind);
        }
        SandRails t = equipped(2);
        t.ground(10, 11, 1);
        t.set(10, EAST, 2);
        t.ground(0, 0, 2);
        t.store(6, 100);
        t.store(8, seedOfWay(SOUTH));
        t.rest(1440);
        due("before a rail on rock", t.kind(0), 2);
        due("it is not buried", t.count(8), 0);
    }

    private static void cellsAsTheyAreThen() {
        says("(By CELLS as they are then.)");
        // way, the dunes ahead of the night, the dunes behind it
        int[][][] cases = {
            {{NORTH}, {45, 55}, {35, 45}}, {{SOUTH}, {45, 55}, {45, 65}},
            {{EAST}, {55, 56}, {55, 57}}, {{WEST}, {55, 56}, {54, 55}},
            {{WEST}, {50, 51, 52}, {50, 51}}, {{EAST}, {57, 58, 59}, {57, 58}},
            {{NORTH}, {5, 15, 25}, {5, 15}}, {{SOUTH}, {75, 85, 95}, {75, 85}}};
        for (int[][] c : cases) {
            SandRails s = new SandRails();
            for (int cell : c[1]) {
                s.ground(cell, cell, 2);
            }
            s.store(6, 100);
            s.store(8, seedOfWay(c[0][0]));
            s.rest(1440);
            for (int cell : c[2]) {
                due("way " + c[0][0] + " from " + c[1][0] + " on: " + cell, s.kind(cell), 2);
            }
            due("so many", s.count(9), c[2].length);
        }
    }

    private static void buried() {
        says("A RAIL of THE LINE on a CELL that is a dune is BURIED.");
        SandRails s = buriedLine(6, 2, 1, 5);
        due("two are", s.count(8), 2);
        s.ground(16, 16, 2);
        s.ground(0, 9, 2);
        due("not by dunes beside", s.count(8), 2);
        due("dunes are all of them", s.count(9), 13);
        due("dug out", s.dig(), 11);
        due("one is", s.count(8), 1);
        s.store(6, 100);
        s.store(8, seedOfWay(SOUTH));
        s.ground(0, 9, 0);
        s.ground(16, 16, 0);
        s.store(2, 30);
        s.rest(1440);
        due("the wind frees one, too", s.count(8), 0);
        due("its dune went on", s.kind(25), 2);
        due("new", new SandRails().count(8), 0);
    }
}
