import java.util.function.Consumer;

/** The sentences of "Terms", ==== 2: ACTS, each with its edges. */
public final class EdgeActsTest extends Kit {
    private EdgeActsTest() { }

    public static void main(String[] args) {
        begin("EdgeActsTest");
        refusedActs();
        liftUnderTheTrain();
        liftBuried();
        liftWithoutAGang();
        liftPlates();
        liftMinutes();
        layIsThere();
        layWellAndLine();
        layNeeds();
        layTakes();
        layMinutes();
        layWear();
        laySplit();
        layDune();
        layWidth();
        goRail();
        goBuried();
        goNeeds();
        goLeaves();
        goStays();
        fill();
        dig();
        digMinutes();
        rest();
        end();
    }

    // ---- what is refused

    /** Nothing of what can be asked is another one behind the act, which is refused. */
    private static void nothingHappens(String what, SandRails s, int rails, Consumer<SandRails> act) {
        String before = state(s, rails, 3);
        refused(what, STATE, () -> { act.accept(s); return 0; });
        due(what + ", behind it", state(s, rails, 3), before);
    }

    private static void refusedActs() {
        says("ACTS (refused, if they cannot be: nothing happens):");
        nothingHappens("lift, not set out", equipped(3), 3, SandRails::lift);
        nothingHappens("lay, not set out", equipped(3), 3, s -> s.lay(EAST));
        nothingHappens("go, not set out", equipped(3), 3, s -> s.go(false));
        nothingHappens("back, not set out", equipped(3), 3, s -> s.go(true));
        nothingHappens("fill, not set out", equipped(3), 3, SandRails::fill);
        nothingHappens("dig, not set out", equipped(3), 3, SandRails::dig);
        nothingHappens("lift under the train", buriedLine(4, 2), 4, SandRails::lift);
        nothingHappens("lay without a rail", buriedLine(4, 2), 4, s -> s.lay(EAST));
        nothingHappens("go, buried", buriedLine(4, 2, 2), 4, s -> s.go(false));
        nothingHappens("back from the tail", buriedLine(4, 2), 4, s -> s.go(true));
        nothingHappens("fill without a well", buriedLine(4, 2), 4, SandRails::fill);
        nothingHappens("dig, nothing buried", buriedLine(4, 2), 4, SandRails::dig);
    }

    // ---- LIFT

    private static void liftUnderTheTrain() {
        says("LIFT: the TAIL's RAIL, if THE TRAIN does not stand on it");
        SandRails s = equipped(5);
        s.store(7, 3);
        s.set(10, EAST, 5);
        refused("it stands on it", STATE, s::lift);
        s.go(false);
        s.go(false);
        due("two cells behind it: the tail's", s.lift(), 0);
        due("a cell behind it: the tail's", s.lift(), 1);
        refused("its last cell", STATE, s::lift);
        due("three cells", s.count(1), 3);
    }

    private static void liftBuried() {
        says("and it is not BURIED,");
        SandRails s = buriedLine(5, 2, 0, 4);
        s.dig();
        s.go(false);
        due("another one is buried, not the tail", s.count(8), 1);
        due("lift", s.lift(), 0);
        SandRails t = equipped(5);
        t.ground(0, 0, 2);
        t.set(10, EAST, 5);
        t.go(false);
        t.go(false);
        t.store(6, 100);
        t.store(8, seedOfWay(SOUTH));
        t.rest(1440);
        refused("the tail is", STATE, t::lift);
        t.dig();
        due("dug out", t.lift(), 0);
    }

    private static void liftWithoutAGang() {
        says("and some GANG lifts:");
        SandRails s = equipped(5);
        s.set(10, EAST, 5);
        s.go(false);
        s.task(0, 0);
        refused("none", STATE, s::lift);
        s.task(0, 2);
        refused("all lay or dig", STATE, s::lift);
        s.task(2, 1);
        due("another one does", s.lift(), 0);
    }

    private static void liftPlates() {
        says("it is CARRIED; PLATES 2 more (9999 at most);");
        int[][] cases = {{0, 2}, {9996, 9998}, {9997, 9999}, {9998, 9999}, {9999, 9999}};
        for (int[] c : cases) {
            SandRails s = equipped(4);
            s.set(10, EAST, 4);
            s.go(false);
            s.store(0, c[0]);
            s.lift();
            due("plates of " + c[0], s.count(4), c[1]);
            due("carried", s.look(0, 3), 1);
            due("on no cell", s.look(0, 2), NONE);
            due("one is", s.count(2), 1);
            due("wear and width as they were", s.look(0, 0) * 10 + s.look(0, 1), 0);
        }
    }

    private static void liftMinutes() {
        says("8 times 4 by the STRENGTH of all who lift, rounded up.");
        int[][] gangs = {{1}, {2}, {3}, {4}, {5}, {6}, {7}, {8}, {9}, {8, 8}, {9, 7}, {9, 8}, {9, 9, 9, 4},
            {9, 9, 9, 5}, {9, 9, 9, 6}, {9, 9, 9, 9}};
        int[] minutes = {32, 16, 11, 8, 7, 6, 5, 4, 4, 2, 2, 2, 2, 1, 1, 1};
        for (int i = 0; i < gangs.length; i++) {
            SandRails s = workers(gangs[i], 1);
            s.go(false);
            s.lift();
            due("minutes by " + gangs[i].length + " gangs, the first of " + gangs[i][0], s.count(0), 2 + minutes[i]);
        }
        SandRails s = workers(new int[] {1, 9, 9, 9}, 1);
        s.task(1, 0);
        s.task(2, 2);
        s.task(3, 3);
        s.go(false);
        s.lift();
        due("by those who lift alone", s.count(0), 34);
    }

    /** A line of three from 10 eastwards and a carried rail, gangs of these strengths with one task. */
    private static SandRails workers(int[] strengths, int task) {
        SandRails s = new SandRails();
        for (int i = 0; i < 4; i++) {
            s.rail(0, 0);
        }
        for (int i = 0; i < strengths.length; i++) {
            s.gang(strengths[i], 1);
            s.task(i, task);
        }
        s.store(0, 100);
        s.store(1, 100);
        s.store(2, 30);
        s.set(10, EAST, 3);
        return s;
    }

    // ---- LAY

    private static void layIsThere() {
        says("LAY a WAY: on the CELL next to the HEAD, if it is there,");
        int[][] heads = {{0, NORTH, WEST}, {9, NORTH, EAST}, {90, SOUTH, WEST}, {99, SOUTH, EAST}};
        for (int[] c : heads) {
            SandRails s = equipped(3);
            s.store(7, 1);
            s.set(c[0], NORTH, 1);
            refused("beyond " + c[0] + ", way " + c[1], STATE, () -> s.lay(c[1]));
            refused("beyond " + c[0] + ", way " + c[2], STATE, () -> s.lay(c[2]));
            due("the other way", s.lay((c[1] + 2) % 4), 1);
        }
        SandRails t = equipped(3);
        t.set(55, EAST, 2);
        t.lay(SOUTH);
        due("next to the head, not to the tail", t.line(2, false), 66);
    }

    private static void layWellAndLine() {
        says("no well, no CELL of THE LINE,");
        SandRails s = equipped(6);
        s.set(55, EAST, 2);
        s.ground(57, 57, 3);
        refused("a well", STATE, () -> s.lay(EAST));
        refused("back on the line", STATE, () -> s.lay(WEST));
        s.lay(SOUTH);
        s.lay(WEST);
        refused("on the tail", STATE, () -> s.lay(NORTH));
        s.go(false);
        s.lift();
        due("where the tail was", s.lay(NORTH), 0);
        due("its cell", s.line(3, false), 55);
    }

    private static void layNeeds() {
        says("there is a CARRIED RAIL, 2 PLATES, and some GANG lays:");
        SandRails s = equipped(3);
        s.set(10, EAST, 2);
        s.store(0, 0);
        refused("no plates", STATE, () -> s.lay(EAST));
        s.store(0, 1);
        refused("1 plate", STATE, () -> s.lay(EAST));
        s.store(0, 2);
        s.task(1, 0);
        refused("none lays", STATE, () -> s.lay(EAST));
        s.task(1, 2);
        due("all is there", s.lay(EAST), 2);
        due("no plates are left", s.count(4), 0);
        s.store(0, 9999);
        refused("no rail is carried", STATE, () -> s.lay(EAST));
        s.rail(0, 0);
        due("one is now", s.lay(EAST), 3);
        due("9997", s.count(4), 9997);
    }

    private static void layTakes() {
        says("the least CARRIED RAIL; PLATES 2 less;");
        SandRails s = equipped(6);
        s.set(10, EAST, 3);
        s.lose(3);
        due("3 is lost: 4", s.lay(EAST), 4);
        s.go(false);
        s.lift();
        due("0 is carried: the least", s.lay(EAST), 0);
        due("then 5", s.lay(EAST), 5);
        due("plates 100 - 2 + 2 - 2 - 2", s.count(4), 96);
    }

    private static void layMinutes() {
        says("MINUTES: (12 on sand, 20 on rock, 40 on a dune, and 1 for each CELL of THE LINE) "
            + "times 4 by the STRENGTH of all who lay, rounded up.");
        int[] strengths = {1, 3, 4, 7, 9};
        // (12 + 3) 4, (20 + 3) 4, (40 + 3) 4 by the strengths
        int[][] minutes = {{60, 20, 15, 9, 7}, {92, 31, 23, 14, 11}, {172, 58, 43, 25, 20}};
        for (int kind = 0; kind <= 2; kind++) {
            for (int i = 0; i < strengths.length; i++) {
                SandRails s = workers(new int[] {strengths[i]}, 2);
                s.ground(13, 13, kind);
                s.lay(EAST);
                due("kind " + kind + ", strength " + strengths[i], s.count(0), minutes[kind][i]);
            }
        }
        SandRails s = workers(new int[] {9, 9, 9, 9}, 2);
        s.lay(EAST);
        due("60 by 36", s.count(0), 2);
        SandRails t = workers(new int[] {1, 9, 9, 9}, 2);
        t.task(1, 0);
        t.task(2, 1);
        t.task(3, 3);
        t.lay(EAST);
        due("by those who lay alone", t.count(0), 60);
        SandRails u = equipped(16);
        u.store(7, 1);
        u.set(0, EAST, 1);
        int clock = 0;
        for (int cells = 1; cells < 10; cells++) {
            u.lay(EAST);
            clock += 12 + cells;
            due(cells + " cells of the line", u.count(0), clock);
        }
    }

    private static void layWear() {
        says("Its WEAR is 1 more on sand, 3 on rock, 2 on a dune;");
        int[] more = {1, 3, 2};
        for (int kind = 0; kind <= 2; kind++) {
            SandRails s = equipped(2);
            s.rail(0, 0);
            s.rail(99 - more[kind], 0);
            s.set(10, EAST, 2);
            s.ground(12, 13, kind);
            due("laid", s.lay(EAST), 2);
            due("wear on kind " + kind, s.look(2, 0), more[kind]);
            due("laid to 99", s.lay(EAST), 3);
            due("wear on kind " + kind, s.look(3, 0), 99);
            due("rails that lie have none more", s.look(0, 0), 0);
        }
    }

    private static void laySplit() {
        says("if that would be above 99: it is SPLIT (WEAR and WIDTH as they were), nothing is LAID "
            + "(PLATES and MINUTES are gone).");
        int[] least = {99, 97, 98};
        int[] minutes = {14, 22, 42};
        for (int kind = 0; kind <= 2; kind++) {
            SandRails s = equipped(2);
            s.rail(least[kind], -9);
            s.rail(99, 9);
            s.set(10, EAST, 2);
            s.ground(12, 12, kind);
            s.store(8, 77);
            due("on kind " + kind, s.lay(EAST), NONE);
            due("split", s.look(2, 3), 2);
            due("wear", s.look(2, 0), least[kind]);
            due("width", s.look(2, 1), -9);
            due("on no cell", s.look(2, 2), NONE);
            due("the line", s.count(1), 2);
            due("the head", s.line(2, false), NONE);
            due("nothing in the log", s.count(11), 2);
            due("the ground", s.kind(12), kind);
            due("plates", s.count(4), 98);
            due("minutes", s.count(0), minutes[kind]);
            due("no draw", s.store(8, 77), 77);
            due("the next one, too", s.lay(EAST), NONE);
            due("plates", s.count(4), 96);
            due("minutes", s.count(0), 2 * minutes[kind]);
            refused("no rail is carried", STATE, () -> s.lay(EAST));
            due("thirst of the minutes", s.count(6), 30 - 2 * minutes[kind] / 60);
        }
    }

    private static void layDune() {
        says("A dune on which a RAIL is LAID is sand then.");
        SandRails s = equipped(5);
        s.set(10, EAST, 2);
        s.ground(12, 13, 2);
        s.lay(EAST);
        due("sand", s.kind(12), 0);
        due("the next one is a dune", s.kind(13), 2);
        due("none is buried", s.count(8), 0);
        s.ground(13, 13, 1);
        s.lay(EAST);
        due("rock is rock", s.kind(13), 1);
        s.go(false);
        s.lift();
        due("sand behind, too", s.kind(10), 0);
    }

    private static void layWidth() {
        says("Its WIDTH: a DRAW modulo 3, less 1, more (- 9 to 9 at least and most).");
        int[][] cases = {{0, 0, -1}, {0, 1, 0}, {0, 2, 1}, {9, 2, 9}, {9, 1, 9}, {9, 0, 8}, {8, 2, 9},
            {-9, 0, -9}, {-9, 1, -9}, {-9, 2, -8}, {-8, 0, -9}};
        for (int[] c : cases) {
            SandRails s = equipped(2);
            s.rail(0, c[0]);
            s.set(10, EAST, 2);
            int seed = seedOfThree(c[1]);
            s.store(8, seed);
            s.lay(EAST);
            due("width " + c[0] + " by " + c[1], s.look(2, 1), c[2]);
            due("one draw", s.store(8, 0), seedAfter(seed));
        }
    }

    // ---- GO

    private static void goRail() {
        says("GO: THE TRAIN a CELL towards the HEAD (or BACK, towards the TAIL), if there is a RAIL,");
        SandRails s = equipped(4);
        s.store(7, 3);
        s.set(10, EAST, 4);
        refused("none behind the tail", STATE, () -> s.go(true));
        due("to the head", s.go(false), true);
        due("front", s.count(3), 3);
        refused("none behind the head", STATE, () -> s.go(false));
        due("to the tail", s.go(true), true);
        due("front", s.count(3), 2);
        refused("none behind the tail", STATE, () -> s.go(true));
        SandRails t = equipped(4);
        t.store(7, 4);
        t.set(10, EAST, 4);
        refused("as long as the line", STATE, () -> t.go(false));
        refused("as long as the line, back", STATE, () -> t.go(true));
    }

    private static void goBuried() {
        says("neither it nor any under THE TRAIN is BURIED,");
        // A line of 6, the train on 2 and 3; whether it can go, and go back, with one rail buried.
        boolean[] goes = {true, true, false, false, false, true};
        boolean[] goesBack = {true, false, false, false, true, true};
        for (int at = 0; at < 6; at++) {
            SandRails s = trainBuriedAt(at);
            if (goes[at]) {
                due("go, buried " + at, s.go(false), true);
            } else {
                refused("go, buried " + at, STATE, () -> s.go(false));
            }
            SandRails t = trainBuriedAt(at);
            if (goesBack[at]) {
                due("back, buried " + at, t.go(true), true);
            } else {
                refused("back, buried " + at, STATE, () -> t.go(true));
            }
        }
    }

    private static SandRails trainBuriedAt(int at) {
        SandRails s = equipped(6);
        s.ground(at, at, 2);
        s.set(10, EAST, 6);
        s.go(false);
        s.go(false);
        s.store(6, 100);
        s.store(8, seedOfWay(SOUTH));
        s.rest(1440);
        s.store(2, 30);
        due("one is buried", s.count(8), 1);
        due("the train stands on 2 and 3", s.count(3), 3);
        return s;
    }

    private static void goNeeds() {
        says("WATER for STEAM and 1 WOOD: 2 minutes.");
        for (int way = 0; way <= 1; way++) {
            boolean isBack = way == 1;
            SandRails s = equipped(4);
            s.set(10, EAST, 4);
            s.go(false);
            s.store(1, 0);
            refused("no wood", STATE, () -> s.go(isBack));
            s.store(1, 1);
            s.store(4, 7);
            s.store(2, 6);
            refused("less water", STATE, () -> s.go(isBack));
            s.store(2, 7);
            due("just enough of both", s.go(isBack), true);
            due("no wood is left", s.count(5), 0);
            due("no water is left", s.count(6), 0);
            due("2 minutes", s.count(0), 4);
        }
    }

    private static void goLeaves() {
        says("But if it would pass from its FRONT (BACK: from its last CELL) "
            + "to a RAIL of another WIDTH by more than LIMIT, it LEAVES:");
        // A train of 2 on the places 1 and 2 of four: from 2 to 3, or back from 1 to 0.
        int[][] cases = {{0, 0, 0, 3, 1, 1}, {0, 0, 0, 4, 0, 1}, {3, 0, 0, 0, 1, 1}, {4, 0, 0, 0, 1, 0},
            {5, 5, 9, 5, 0, 1}, {0, 3, 6, 9, 1, 1}, {-2, 2, 2, -2, 0, 0}, {5, 9, 5, 5, 1, 0}, {0, 3, 9, 9, 1, 1},
            {9, 9, 0, 0, 1, 1}};
        for (int[] c : cases) {
            for (int way = 0; way <= 1; way++) {
                SandRails s = new SandRails();
                for (int i = 0; i < 4; i++) {
                    s.rail(0, c[i]);
                }
                s.store(1, 9);
                s.store(2, 9);
                s.store(5, 18);
                s.set(10, EAST, 4);
                s.go(false);
                s.store(5, 3);
                due("widths " + c[0] + " " + c[1] + " " + c[2] + " " + c[3] + (way == 1 ? ", back" : ""),
                    s.go(way == 1), c[4 + way] == 1);
            }
        }
    }

    private static void goStays() {
        says("it stays, and 60 minutes go by (WATER and WOOD, too).");
        for (int way = 0; way <= 1; way++) {
            SandRails s = equipped(0);
            int[] widths = {0, 9, 9, 0};
            for (int width : widths) {
                s.rail(0, width);
            }
            s.set(10, EAST, 4);
            s.store(5, 9);
            s.go(false);
            s.store(5, 8);
            s.store(1, 1);
            s.store(2, 4);
            s.store(4, 3);
            due("leaves", s.go(way == 1), false);
            due("the front", s.count(3), 2);
            due("the clock", s.count(0), 62);
            due("water 4 - 3, then the thirst", s.count(6), 0);
            due("it was enough", s.count(7), NONE);
            due("wood", s.count(5), 0);
            due("left once", s.count(12), 1);
            due("the line", s.count(1), 4);
            s.store(2, 30);
            refused("without wood it does not even leave", STATE, () -> s.go(false));
            s.store(1, 1);
            s.store(2, 2);
            refused("nor without water", STATE, () -> s.go(false));
            due("left once", s.count(12), 1);
        }
    }

    // ---- FILL, DIG, REST

    private static void fill() {
        says("FILL: if a CELL of THE TRAIN is beside a well: WATER is TANK: 15 minutes.");
        // The train on 54 and 55 of a line from 53 to 56.
        int[] beside = {44, 45, 64, 65};
        int[] notBeside = {43, 46, 63, 66, 52, 57, 35, 34, 74, 75};
        for (int cell : beside) {
            SandRails s = trainOn54();
            s.ground(cell, cell, 3);
            s.store(2, 7);
            due("a well on " + cell, s.fill(), 23);
            due("full", s.count(6), 30);
            due("minutes", s.count(0), 17);
            due("nothing comes", s.fill(), 0);
            due("minutes all the same", s.count(0), 32);
        }
        for (int cell : notBeside) {
            SandRails s = trainOn54();
            s.ground(cell, cell, 3);
            refused("a well on " + cell, STATE, s::fill);
        }
        SandRails t = trainOn54();
        t.ground(44, 44, 3);
        t.store(3, 60);
        t.store(2, 0);
        due("the greatest tank", t.fill(), 60);
        t.store(3, 1);
        t.store(2, 0);
        due("the least tank", t.fill(), 1);
        t.rest(13);
        t.store(2, 0);
        due("come ahead of the thirst", t.fill(), 1);
        due("which is behind it", t.count(6), 0);
        due("and not dry", t.count(7), NONE);
        edgesOfWells();
    }

    /** No cell is beside one at the other end of the ground. */
    private static void edgesOfWells() {
        int[][] cases = {{9, 10}, {10, 9}, {5, 95}, {95, 5}, {0, 99}, {99, 0}, {20, 19}, {90, 0}};
        for (int[] c : cases) {
            SandRails s = equipped(1);
            s.store(7, 1);
            s.set(c[0], EAST, 1);
            s.ground(c[1], c[1], 3);
            refused("from " + c[0] + " to " + c[1], STATE, s::fill);
        }
    }

    private static SandRails trainOn54() {
        SandRails s = equipped(4);
        s.set(53, EAST, 4);
        s.go(false);
        return s;
    }

    private static void dig() {
        says("DIG: the first BURIED RAIL from the TAIL on, if there is one and some GANG digs: "
            + "the CELL is sand then:");
        SandRails s = buriedLine(6, 2, 5, 1, 0);
        s.task(2, 0);
        refused("none digs", STATE, s::dig);
        s.task(2, 3);
        due("the first", s.dig(), 10);
        due("sand", s.kind(10), 0);
        due("two are buried", s.count(8), 2);
        due("the second", s.dig(), 11);
        due("the head", s.dig(), 15);
        refused("no more", STATE, s::dig);
        due("no dunes", s.count(9), 0);
        // From the tail on, not by the numbers of cells.
        SandRails t = equipped(4);
        t.set(13, WEST, 4);
        t.ground(0, 3, 2);
        t.store(6, 100);
        t.store(8, seedOfWay(SOUTH));
        t.rest(1440);
        for (int cell = 13; cell >= 10; cell--) {
            due("westwards", t.dig(), cell);
        }
        SandRails u = equipped(2);
        u.set(10, EAST, 2);
        u.ground(12, 12, 2);
        refused("a dune beside the line", STATE, u::dig);
    }

    private static void digMinutes() {
        says("25 times 4 by the STRENGTH of all who dig, rounded up.");
        int[] strengths = {1, 3, 4, 6, 7, 8, 9};
        int[] minutes = {100, 34, 25, 17, 15, 13, 12};
        for (int i = 0; i < strengths.length; i++) {
            SandRails s = buriedLine(3, 2, 2);
            s.task(2, 0);
            s.gang(strengths[i], 1);
            s.task(3, 3);
            s.dig();
            due("strength " + strengths[i], s.count(0), 1440 + minutes[i]);
        }
        SandRails s = buriedLine(3, 2, 2);
        s.task(0, 3);
        s.task(1, 3);
        s.gang(9, 1);
        s.task(3, 3);
        s.dig();
        due("100 by 4 and 4 and 4 and 9", s.count(0), 1445);
    }

    private static void rest() {
        says("REST: 1 to 1440 minutes.");
        SandRails s = new SandRails();
        for (int minutes : new int[] {0, 1441, -1, LEAST, MOST}) {
            refused("rest " + minutes, ARGUMENT, () -> s.rest(minutes));
        }
        due("none went by", s.count(0), 0);
        due("the least", s.rest(1), 1);
        due("the most", s.rest(1440), 1441);
        due("ahead of setting out, too", s.count(0), 1441);
    }
}
