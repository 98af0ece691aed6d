/** The sentences of "Terms", ==== 4: ROUTES and all else that is looked at, each with its edges. */
public final class EdgeRoutesTest extends Kit {
    private EdgeRoutesTest() { }

    public static void main(String[] args) {
        begin("EdgeRoutesTest");
        routeSteps();
        routeCosts();
        routeTakings();
        routeLeft();
        routeWithoutTaking();
        routeLeastNumber();
        reach();
        joints();
        firstJoint();
        few();
        worn();
        stolen();
        lost();
        log();
        logOfHundred();
        which();
        walked();
        ahead();
        image();
        end();
    }

    // ---- ROUTE and REACH

    /** A line of two rails, its head on a cell, without men, so that no water goes but by what is asked. */
    private static SandRails headOn(int cell, int way, int water) {
        SandRails s = new SandRails();
        s.rail(0, 0);
        s.rail(0, 0);
        s.store(3, 60);
        s.store(2, water);
        int tail = way == EAST ? cell - 1 : way == WEST ? cell + 1 : way == NORTH ? cell + 10 : cell - 10;
        due("the head", s.set(tail, way, 2), cell);
        return s;
    }

    /** The cells of a route, one behind another. */
    private static void cells(String what, SandRails s, int to, int... cells) {
        due(what + ": how many", s.route(to, -2), cells.length);
        for (int k = 0; k < cells.length; k++) {
            due(what + ": cell " + k, s.route(to, k), cells[k]);
        }
        due(what + ": behind it", s.route(to, cells.length), NONE);
        due(what + ": far behind it", s.route(to, MOST), NONE);
    }

    private static void noRoute(String what, SandRails s, int to) {
        due(what + ": minutes", s.route(to, NONE), NONE);
        due(what + ": cells", s.route(to, -2), NONE);
        due(what + ": the first cell", s.route(to, 0), NONE);
        due(what + ": reach", s.reach(to, MOST), NONE);
        due(what + ": reach of no minutes", s.reach(to, 0), NONE);
    }

    private static void routeSteps() {
        says("ROUTE from the HEAD to a CELL (no well, not of THE LINE): "
            + "steps from one CELL to one beside it that is no well and not of THE LINE;");
        SandRails s = headOn(55, EAST, 60);
        s.ground(0, 0, 3);
        refused("to a well", ARGUMENT, () -> s.route(0, NONE));
        refused("to the head", ARGUMENT, () -> s.route(55, NONE));
        refused("to the tail", ARGUMENT, () -> s.route(54, NONE));
        due("one step", s.route(56, NONE), 12);
        cells("round the tail", s, 53, 45, 44, 43, 53);
        s.ground(45, 45, 3);
        cells("not over a well", s, 53, 65, 64, 63, 53);
        s.ground(65, 65, 3);
        cells("over the other side", s, 53, 56, 46, 36, 35, 34, 33, 43, 53);
        s.ground(56, 56, 3);
        noRoute("shut in", s, 53);
        noRoute("shut in", s, 99);
        SandRails t = headOn(55, EAST, 60);
        t.ground(98, 98, 3);
        t.ground(89, 89, 3);
        noRoute("the end is shut in", t, 99);
        due("but others are not", t.route(97, -2), 6);
        // Not from one edge of the ground to the other one.
        due("from 9 to 10", headOn(9, EAST, 60).route(10, -2), 10);
        due("from 10 to 9", headOn(10, WEST, 60).route(9, -2), 10);
        due("from 5 to 95", headOn(5, EAST, 60).route(95, -2), 9);
        due("from 95 to 5", headOn(95, WEST, 60).route(5, -2), 9);
        due("from 0 to 99", headOn(0, WEST, 60).route(99, NONE), 18 * 12);
        due("from 99 to 0", headOn(99, SOUTH, 60).route(0, NONE), 18 * 12);
    }

    private static void routeCosts() {
        says("each takes MINUTES by its KIND now (12 sand, 20 rock, 40 dune, whatever STRENGTH) and 1 WATER, "
            + "of what there is now at the HEAD;");
        int[] minutes = {12, 20, 40};
        for (int kind = 0; kind <= 2; kind++) {
            SandRails s = headOn(55, EAST, 60);
            s.ground(56, 56, kind);
            due("kind " + kind, s.route(56, NONE), minutes[kind]);
            s.gang(9, 30);
            s.task(0, 2);
            due("whoever lays", s.route(56, NONE), minutes[kind]);
            s.ground(56, 56, 1);
            due("as it is now", s.route(56, NONE), 20);
        }
        SandRails s = new SandRails();
        s.rail(0, 0);
        s.rail(0, 0);
        s.ground(0, 1, 1);
        s.set(0, EAST, 2);
        s.store(2, 1);
        due("not by the head's kind", s.route(2, NONE), 12);
        for (int water = 0; water <= 6; water++) {
            SandRails t = headOn(1, EAST, water);
            if (water < 5) {
                noRoute("5 steps with " + water, t, 6);
            } else {
                due("5 steps with " + water, t.route(6, NONE), 60);
            }
        }
        SandRails u = headOn(1, EAST, 4);
        noRoute("4 water", u, 6);
        u.store(2, 5);
        due("5 water now", u.route(6, -2), 5);
        // Fewer steps by more minutes, if there is no more water: over the dune.
        SandRails v = headOn(1, EAST, 4);
        v.ground(2, 2, 2);
        cells("round the dune", v, 3, 11, 12, 13, 3);
        v.store(2, 3);
        cells("over the dune", v, 3, 2, 3);
        due("its minutes", v.route(3, NONE), 52);
        v.store(2, 1);
        noRoute("one step alone", v, 3);
    }

    private static void routeTakings() {
        says("ahead of a step, on a CELL beside a well (the HEAD, too), one may take WATER up to TANK, "
            + "for 15 MINUTES.");
        SandRails s = headOn(1, EAST, 0);
        noRoute("no water", s, 2);
        s.ground(22, 22, 3);
        noRoute("a well that is not beside", s, 2);
        s.ground(11, 11, 3);
        due("the head is beside one", s.route(2, NONE), 15 + 12);
        due("far, by one taking", s.route(9, NONE), 15 + 8 * 12);
        s.store(3, 8);
        due("8 steps by a tank of 8", s.route(9, NONE), 15 + 8 * 12);
        cells("to the last drop", s, 9, 2, 3, 4, 5, 6, 7, 8, 9);
        due("all but one", s.reach(9, 15 + 8 * 12 - 1), 7);
        due("all", s.reach(9, 15 + 8 * 12), 8);
        s.store(3, 7);
        noRoute("8 steps by a tank of 7", s, 9);
        due("7 steps by a tank of 7", s.route(8, NONE), 15 + 7 * 12);
        // Diagonal is not beside, nor over the edge.
        SandRails t = headOn(9, EAST, 0);
        t.ground(10, 10, 3);
        t.ground(20, 20, 3);
        noRoute("over the edge", t, 19);
        t.ground(18, 18, 3);
        noRoute("diagonal", t, 19);
        // On the way: 1, then 2 beside the well 12, taken, then 3, 4, 5.
        SandRails u = headOn(1, EAST, 1);
        u.ground(12, 12, 3);
        due("taken on the way", u.route(5, NONE), 12 + 15 + 3 * 12);
        cells("its cells", u, 5, 2, 3, 4, 5);
        u.store(3, 3);
        due("a tank of 3", u.route(5, NONE), 12 + 15 + 3 * 12);
        u.store(3, 2);
        u.ground(14, 14, 3);
        due("taken twice", u.route(6, NONE), 12 + 15 + 24 + 15 + 24);
        noRoute("7 is a step too far", u, 7);
        // A tank of one: one cannot leave a well's side.
        SandRails v = headOn(1, EAST, 1);
        v.store(3, 1);
        v.ground(11, 13, 3);
        due("a taking ahead of each step", v.route(4, NONE), 12 + 15 + 12 + 15 + 12);
        noRoute("4 is beside no well", v, 5);
        v.store(2, 0);
        due("at the head, too", v.route(4, NONE), 3 * 27);
        // In a corner of the ground: 0 is beside the well 10, and nearer than 20 by the rocks.
        SandRails x = new SandRails();
        for (int i = 0; i < 3; i++) {
            x.rail(0, 0);
        }
        x.ground(10, 10, 3);
        x.ground(20, 29, 1);
        x.store(2, 4);
        x.set(11, EAST, 3);
        due("taken on 0", x.route(9, NONE), 4 * 12 + 15 + 9 * 12);
        cells("there and back", x, 9, 3, 2, 1, 0, 1, 2, 3, 4, 5, 6, 7, 8, 9);
        // At the end none is taken.
        SandRails w = headOn(1, EAST, 1);
        w.ground(12, 12, 3);
        due("nothing behind the last step", w.route(2, NONE), 12);
        longestWay();
    }

    /** A way between wells that is as long as one can be: two cells of the line, then 62 steps. */
    private static void longestWay() {
        int[] way = {70, 80, 90, 91, 92, 93, 83, 73, 72, 62, 61, 51, 50, 40, 30, 20, 10, 0, 1, 2, 3, 4, 5, 15, 16, 17,
            7, 8, 9, 19, 29, 28, 38, 48, 49, 59, 69, 79, 78, 77, 67, 57, 56, 46, 45, 35, 34, 24, 23, 22, 32, 42, 43, 53,
            54, 64, 65, 75, 85, 86, 96, 97, 98, 99};
        SandRails s = new SandRails();
        s.rail(0, 0);
        s.rail(0, 0);
        s.ground(0, 99, 3);
        for (int cell : way) {
            s.ground(cell, cell, 0);
        }
        s.set(70, SOUTH, 2);
        s.store(3, 60);
        s.store(2, 60);
        due("60 steps by 60 water", s.route(97, NONE), 720);
        due("60 steps", s.route(97, -2), 60);
        due("within 719", s.reach(97, 719), 59);
        due("within 720", s.reach(97, 720), 60);
        due("61 steps by 60 water", s.route(98, NONE), 61 * 12 + 15);
        due("taken on the 60th cell", s.reach(98, 720), 60);
        due("not yet the 61st", s.reach(98, 746), 60);
        due("the 61st", s.reach(98, 747), 61);
        due("62 steps", s.route(99, -2), 62);
        for (int k = 0; k < 62; k++) {
            due("cell " + k, s.route(99, k), way[k + 2]);
        }
        due("behind it", s.route(99, 62), NONE);
        s.store(3, 59);
        due("60 steps by 59 water", s.route(97, NONE), 735);
        due("taken on the 59th cell", s.reach(97, 708), 59);
        due("not yet the 60th", s.reach(97, 734), 59);
        s.store(3, 1);
        due("a tank of 1: to the corner", s.route(90, NONE), 12);
        noRoute("which is beside no well", s, 91);
    }

    private static void routeLeft() {
        says("LEFT from a CELL with so much WATER: the least MINUTES to the end, by these the fewest steps.");
        // Two dunes and a sand, or four rocks and a sand: 92 minutes each.
        SandRails s = headOn(41, EAST, 60);
        s.ground(42, 43, 2);
        s.ground(31, 34, 1);
        s.ground(51, 54, 3);
        due("as many minutes", s.route(44, NONE), 92);
        cells("the fewest steps", s, 44, 42, 43, 44);
        s.ground(42, 42, 1);
        due("fewer minutes", s.route(44, NONE), 72);
        s.ground(42, 43, 2);
        s.ground(31, 31, 0);
        due("fewer minutes by more steps", s.route(44, NONE), 84);
        cells("the least minutes", s, 44, 31, 32, 33, 34, 44);
        // One well to come to: aside for water, a cell gone through twice.
        SandRails t = headOn(1, EAST, 4);
        t.store(3, 9);
        t.ground(11, 19, 1);
        t.ground(22, 22, 3);
        due("there and back", t.route(9, NONE), 12 + 20 + 15 + 8 * 12);
        cells("a cell twice", t, 9, 2, 12, 2, 3, 4, 5, 6, 7, 8, 9);
        // A taking saves minutes: with water enough for the dunes alone one takes some for the way round.
        SandRails u = headOn(1, EAST, 3);
        u.ground(2, 3, 2);
        due("over the dunes", u.route(4, NONE), 92);
        cells("over the dunes", u, 4, 2, 3, 4);
        u.ground(21, 21, 3);
        due("11, taken there, and round", u.route(4, NONE), 12 + 15 + 48);
        cells("round the dunes", u, 4, 11, 12, 13, 14, 4);
    }

    private static void routeWithoutTaking() {
        says("The ROUTE: each step is one by which LEFT is kept, without taking WATER, if there is one such, "
            + "else behind taking it;");
        // Both 1 (the head) and 2 are beside a well, one taking is needed: it is at 2.
        SandRails s = headOn(1, EAST, 3);
        s.store(3, 9);
        s.ground(11, 12, 3);
        due("one taking", s.route(5, NONE), 15 + 4 * 12);
        due("the first step without", s.reach(5, 12), 1);
        due("not yet the second", s.reach(5, 38), 1);
        due("the second behind it", s.reach(5, 39), 2);
        s.store(2, 1);
        due("one taking, still", s.route(5, NONE), 15 + 4 * 12);
        due("the first step without", s.reach(5, 12), 1);
        s.store(2, 0);
        due("one taking, still", s.route(5, NONE), 15 + 4 * 12);
        due("at the head, as no step goes without", s.reach(5, 26), 0);
        due("behind it", s.reach(5, 27), 1);
        s.store(2, 4);
        due("water enough: none", s.route(5, NONE), 48);
        // It goes before the least number: taken at once one could go by 45, but by 56 one takes it there.
        SandRails t = headOn(55, EAST, 1);
        t.ground(65, 66, 3);
        due("two ways of one taking", t.route(46, NONE), 12 + 15 + 12);
        cells("without taking first", t, 46, 56, 46);
        due("no taking at the head", t.reach(46, 12), 1);
        t.ground(66, 66, 0);
        cells("taken at the head, by the least number", t, 46, 45, 46);
        due("a taking at the head", t.reach(46, 26), 0);
    }

    private static void routeLeastNumber() {
        says("of several to the CELL of the least number.");
        SandRails s = headOn(55, EAST, 60);
        cells("south-east", s, 77, 56, 57, 67, 77);
        cells("north-east", s, 37, 45, 35, 36, 37);
        cells("south-west", s, 73, 65, 64, 63, 73);
        cells("north-west", s, 33, 45, 35, 34, 33);
        cells("round the tail: north", s, 53, 45, 44, 43, 53);
        SandRails t = headOn(55, NORTH, 60);
        cells("west ahead of east", t, 75, 54, 64, 74, 75);
        t.ground(54, 54, 1);
        cells("east, if it is less", t, 75, 56, 66, 76, 75);
        SandRails u = headOn(55, WEST, 60);
        cells("west ahead of south", u, 73, 54, 53, 63, 73);
    }

    private static void reach() {
        says("REACH: how many CELLS of it are come to within so many MINUTES (takings are in them).");
        SandRails s = headOn(1, EAST, 60);
        s.ground(2, 2, 2);
        s.ground(3, 3, 1);
        s.ground(11, 13, 3);
        int[][] cases = {{0, 0}, {39, 0}, {40, 1}, {59, 1}, {60, 2}, {71, 2}, {72, 3}, {73, 3}, {MOST, 3}};
        for (int[] c : cases) {
            due("within " + c[0], s.reach(4, c[0]), c[1]);
        }
        refused("below 0", ARGUMENT, () -> s.reach(4, -1));
        refused("far below 0", ARGUMENT, () -> s.reach(4, LEAST));
        s.store(2, 0);
        int[][] taken = {{0, 0}, {54, 0}, {55, 1}, {74, 1}, {75, 2}, {86, 2}, {87, 3}};
        for (int[] c : taken) {
            due("taken at the head, within " + c[0], s.reach(4, c[0]), c[1]);
        }
        s.store(2, 1);
        int[][] later = {{39, 0}, {40, 1}, {74, 1}, {75, 2}, {86, 2}, {87, 3}};
        for (int[] c : later) {
            due("taken at 2, within " + c[0], s.reach(4, c[0]), c[1]);
        }
        s.ground(11, 13, 0);
        s.store(2, 1);
        due("no route", s.reach(4, MOST), NONE);
    }

    // ---- JOINTS, FEW, WORN

    private static SandRails ofWidths(int... widths) {
        SandRails s = new SandRails();
        for (int width : widths) {
            s.rail(0, width);
        }
        s.store(7, 1);
        s.set(0, EAST, widths.length);
        return s;
    }

    private static void joints() {
        says("JOINTS: the greatest difference of WIDTHS of two RAILS of THE LINE beside one another;");
        due("no line", new SandRails().joints(false), 0);
        due("one rail", ofWidths(9).joints(false), 0);
        due("alike", ofWidths(5, 5, 5).joints(false), 0);
        due("the widest", ofWidths(-9, 9).joints(false), 18);
        due("the widest", ofWidths(9, -9).joints(false), 18);
        due("the first", ofWidths(0, 7, 1).joints(false), 7);
        due("the last", ofWidths(0, 1, -6).joints(false), 7);
        due("not of rails further off", ofWidths(-9, -4, 1, 6).joints(false), 5);
        SandRails s = new SandRails();
        s.rail(0, -9);
        s.rail(0, -9);
        s.rail(0, 9);
        due("ahead of set", s.joints(false), 0);
        s.set(0, EAST, 2);
        due("not of a carried one", s.joints(false), 0);
    }

    private static void firstJoint() {
        says("the first two from the TAIL on that differ by more than LIMIT "
            + "(by number in THE LINE of the first one; none).");
        due("no line", new SandRails().joints(true), NONE);
        due("one rail", ofWidths(9).joints(true), NONE);
        due("none by 3", ofWidths(0, 3, 0, -3).joints(true), NONE);
        due("the first", ofWidths(0, 4, 0, 9).joints(true), 0);
        due("the second", ofWidths(0, 3, -1, 9).joints(true), 1);
        due("the last", ofWidths(0, 3, 0, 4).joints(true), 2);
        SandRails s = ofWidths(0, -9, 9);
        int[][] cases = {{0, 0}, {8, 0}, {9, 1}, {17, 1}, {18, NONE}};
        for (int[] c : cases) {
            s.store(5, c[0]);
            due("by limit " + c[0], s.joints(true), c[1]);
        }
        SandRails t = ofWidths(5, 5);
        t.store(5, 0);
        due("alike by limit 0", t.joints(true), NONE);
    }

    private static void few() {
        says("FEW: RAILS that are not gone; whether they are more than THE TRAIN is long.");
        due("no rails", new SandRails().few(), false);
        for (int length = 1; length <= 4; length++) {
            SandRails s = new SandRails();
            s.store(7, length);
            for (int rails = 1; rails <= 5; rails++) {
                s.rail(99, 0);
                due(rails + " rails, train of " + length, s.few(), rails > length);
            }
        }
        SandRails s = equipped(2);
        s.rail(99, 0);
        s.rail(0, 0);
        s.set(0, EAST, 2);
        due("laid and carried", s.few(), true);
        s.lose(3);
        due("three", s.few(), true);
        s.lay(EAST);
        due("one is split, one lost", s.few(), false);
    }

    private static void worn() {
        says("WORN: the RAIL of the most WEAR that is not gone, of several the least.");
        due("no rails", new SandRails().worn(), NONE);
        SandRails s = equipped(0);
        int[] wears = {0, 98, 97, 99, 99, 98};
        for (int wear : wears) {
            s.rail(wear, 0);
        }
        due("of several the least", s.worn(), 3);
        s.lose(3);
        due("the other one", s.worn(), 4);
        s.lose(4);
        due("of several the least", s.worn(), 1);
        s.set(0, EAST, 2);
        due("a laid one", s.worn(), 1);
        s.ground(2, 2, 1);
        s.lay(EAST);
        due("2 was split", s.look(2, 3), 2);
        due("still", s.worn(), 1);
        SandRails t = new SandRails();
        t.rail(0, 0);
        due("no wear at all", t.worn(), 0);
        t.lose(0);
        due("all are gone", t.worn(), NONE);
    }

    // ---- STOLEN, LOST

    private static void stolen() {
        says("STOLEN are PLATES (as many as there are, at most);");
        SandRails s = new SandRails();
        due("of none", s.steal(1), 0);
        due("none of none", s.steal(0), 0);
        s.store(0, 9999);
        due("some", s.steal(1), 1);
        due("left", s.count(4), 9998);
        due("all but one", s.steal(9997), 9997);
        due("more than there are", s.steal(2), 1);
        due("none is left", s.count(4), 0);
        s.store(0, 7);
        due("just as many", s.steal(7), 7);
        s.store(0, 7);
        due("far more", s.steal(MOST), 7);
        due("none is left", s.count(4), 0);
    }

    private static void lost() {
        says("LOST is a CARRIED RAIL.");
        SandRails s = equipped(2);
        s.rail(99, 0);
        s.rail(0, 0);
        s.set(0, EAST, 2);
        s.lay(EAST);
        refused("laid", STATE, () -> { s.lose(0); return 0; });
        refused("split", STATE, () -> { s.lose(2); return 0; });
        s.lose(3);
        due("lost", s.look(3, 3), 3);
        refused("lost already", STATE, () -> { s.lose(3); return 0; });
        due("none is carried", s.count(2), 0);
        due("its wear and width", s.look(3, 0) * 10 + s.look(3, 1), 0);
    }

    // ---- LOG

    private static void log() {
        says("LOG: each RAIL that was LAID (by SET OUT, too) or lifted, in which minute "
            + "(of the clock at the end of the ACT, ahead of nights), on which CELL: the last 100 are kept.");
        SandRails s = equipped(4);
        due("empty", s.count(11), 0);
        s.rest(5);
        s.set(10, EAST, 3);
        due("by set out", s.count(11), 3);
        due("in its minute", s.which(11, 5), 1);
        due("not ahead of it", s.which(11, 4), NONE);
        s.go(false);
        due("going is not in it", s.count(11), 3);
        s.lift();
        due("lifted", s.count(11), 4);
        due("at the end of the act", s.which(10, 15), NONE);
        due("not within it", s.which(10, 14), 0);
        s.lay(EAST);
        due("laid", s.count(11), 5);
        due("at the end of the act", s.which(13, 29), 0);
        due("not within it", s.which(13, 28), NONE);
        s.rail(99, 0);
        s.lose(3);
        s.lay(EAST);
        due("a split is not in it", s.count(11), 5);
        due("nor where it would be", s.which(14, MOST), NONE);
        // Over midnight: the end of the act.
        SandRails t = equipped(3);
        t.set(10, EAST, 2);
        t.rest(1439);
        t.lay(EAST);
        due("at the act's end", t.which(12, 1453), 2);
        due("not at midnight", t.which(12, 1452), NONE);
        // Digging and burying are not in it.
        SandRails u = buriedLine(3, 2, 2);
        u.dig();
        due("three by set out", u.count(11), 3);
    }

    /** Round and round a square with three rails: each turn a go, a lift and a lay, 24 minutes. */
    private static SandRails roundAbout() {
        SandRails s = equipped(3);
        s.store(4, 0);
        s.store(5, 18);
        s.store(1, 9999);
        s.set(0, EAST, 3);
        orders(s, "go;lift;lay south");
        orders(s, "go;lift;lay west;go;lift;lay north;go;lift;lay east;go;lift;lay south");
        s.run(0, 200);
        due("a turn", s.count(0), 24);
        return s;
    }

    private static void logOfHundred() {
        says("the last 100 are kept.");
        SandRails s = roundAbout();
        due("entries", s.count(11), 5);
        // 47 turns more: 99 entries, 3 of set out and 2 of each of the 48 turns.
        for (int i = 0; i < 11; i++) {
            s.run(1, 200);
        }
        s.run(1, 9);
        due("entries", s.count(11), 99);
        due("the first one", s.which(0, 0), 0);
        s.go(false);
        s.lift();
        due("the hundredth", s.count(11), 100);
        due("the first one is kept", s.which(0, 0), 0);
        s.lay(SOUTH);
        due("a hundred and one: 100 are kept", s.count(11), 100);
        due("the first one is gone", s.which(0, 0), NONE);
        due("the second one is kept", s.which(1, 0), 1);
        due("its lifting is kept", s.which(0, MOST), NONE);
        s.go(false);
        s.lift();
        due("the second one is gone", s.which(1, 0), NONE);
        due("the third one is kept", s.which(2, 0), 2);
        s.lay(WEST);
        due("the third one is gone", s.which(2, 0), NONE);
        due("100 are kept", s.count(11), 100);
        due("the last is told", s.which(s.line(2, false), s.count(0)), s.line(2, true));
        for (int i = 0; i < 13; i++) {
            s.run(1, 200);
        }
        due("100 are kept", s.count(11), 100);
    }

    private static void which() {
        says("WHICH lay on a CELL in a minute: by the last one of these in LOG with that CELL in that minute at most: "
            + "its RAIL, if it was LAID; NONE if it was lifted, or there is none.");
        SandRails s = roundAbout();
        s.run(1, 200);
        s.run(1, 200);
        // Turn t (from 0) ends in the minute 24 (t + 1), lifts 14 minutes ahead of it; rail t modulo 3.
        // Cell 1: rail 1 from 0 on, lifted by turn 1, laid by turn 2 (rail 2), lifted by turn 5, laid by turn 6 (0).
        int[][] cases = {{1, -1, NONE}, {1, 0, 1}, {1, 33, 1}, {1, 34, NONE}, {1, 71, NONE}, {1, 72, 2}, {1, 129, 2},
            {1, 130, NONE}, {1, 167, NONE}, {1, 168, 0}, {1, 216, 0}, {1, MOST, 0},
            {0, 0, 0}, {0, 9, 0}, {0, 10, NONE}, {0, MOST, NONE}, {0, LEAST, NONE}, {5, 0, NONE}, {5, MOST, NONE}};
        for (int[] c : cases) {
            due("on " + c[0] + " in " + c[1], s.which(c[0], c[1]), c[2]);
        }
        refused("on -1", INDEX, () -> s.which(-1, 0));
        refused("on 100", INDEX, () -> s.which(100, 0));
        due("nothing in an empty log", new SandRails().which(0, MOST), NONE);
        due("nothing in an empty log", new SandRails().which(99, LEAST), NONE);
    }

    private static void walked() {
        says("WALKED: how many CELLS a RAIL has been LAID on in LOG.");
        SandRails s = equipped(4);
        due("none", s.look(0, 4), 0);
        s.set(0, EAST, 3);
        due("one by set out", s.look(0, 4), 1);
        due("a carried one none", s.look(3, 4), 0);
        s.go(false);
        s.lift();
        due("lifted, still one", s.look(0, 4), 1);
        s.lay(EAST);
        due("two", s.look(0, 4), 2);
        // Rail 0 lay on 0 ahead of the square; then it comes to all of its four cells.
        SandRails t = roundAbout();
        for (int i = 0; i < 11; i++) {
            t.run(1, 200);
        }
        t.run(1, 9);
        due("0, and the square's four", t.look(0, 4), 5);
        t.go(false);
        t.lift();
        due("of a hundred", t.look(0, 4), 5);
        t.lay(SOUTH);
        due("0 is no longer in the log", t.look(0, 4), 4);
    }

    // ---- AHEAD, THE IMAGE

    private static void ahead() {
        says("AHEAD: nights looked at ahead: after so many (0 to 30) from now (nothing stays): "
            + "how many RAILS of THE LINE would be BURIED; how many dunes there are.");
        SandRails s = equipped(4);
        s.set(10, EAST, 4);
        s.ground(2, 2, 2);
        s.ground(0, 0, 2);
        s.store(6, 100);
        s.store(8, seedOfWay(SOUTH));
        for (int nights : new int[] {-1, 31, LEAST, MOST}) {
            refused("nights " + nights, ARGUMENT, () -> s.ahead(nights, false));
            refused("nights " + nights + ", dunes", ARGUMENT, () -> s.ahead(nights, true));
        }
        String before = state(s, 4, 3);
        due("now", s.ahead(0, false), 0);
        due("dunes now", s.ahead(0, true), 2);
        due("a night on", s.ahead(1, false), 2);
        due("dunes a night on", s.ahead(1, true), 2);
        s.ahead(30, false);
        s.ahead(30, true);
        due("nothing stays", state(s, 4, 3), before);
        SandRails t = new SandRails();
        t.ground(0, 9, 2);
        t.store(6, 100);
        t.store(8, seedOfWay(NORTH));
        due("all are gone", t.ahead(1, true), 0);
        due("and stay gone", t.ahead(30, true), 0);
        due("but now", t.ahead(0, true), 10);
        due("no line", t.ahead(1, false), 0);
        SandRails u = equipped(4);
        u.set(10, EAST, 4);
        u.ground(50, 99, 2);
        u.ground(0, 9, 2);
        u.store(6, 60);
        u.store(8, 4711);
        int dunes = u.ahead(30, true);
        int buried = u.ahead(30, false);
        for (int night = 1; night <= 30; night++) {
            due("the nights to come", u.ahead(30 - night + 1, true), dunes);
            u.rest(1440);
        }
        due("as they were looked at", u.count(9), dunes);
        due("as they were looked at", u.count(8), buried);
    }

    private static void image() {
        says("THE IMAGE (one) of all may be kept, and gone back to (but for the TAPE, fault() and THE IMAGE itself).");
        imageOfRails();
        imageOfLog();
        SandRails s = buriedLine(4, 2, 3);
        orders(s, "rest 1;lift");
        s.run(0, 9);
        String before = state(s, 4, 3);
        s.image();
        changeAll(s);
        due("back", s.back(), true);
        // fault() is 2 now and was NONE; all else is as it was.
        due("fault stays", s.fault(), 2);
        due("the tape stays", s.end(7), true);
        s.end(6);
        due("orders of the tape", s.orders(), 1);
        due("back", s.back(), true);
        due("all else", state(s, 4, 3), before);
        refused("orders 1 are gone", INDEX, () -> s.run(1, 1));
        refused("rail 4 is gone", INDEX, () -> s.look(4, 0));
        refused("gang 3 is gone", INDEX, () -> s.task(3, 0));
    }

    /** States, wear and widths, and how often the train has left. */
    private static void imageOfRails() {
        SandRails s = equipped(4);
        s.rail(99, 3);
        s.rail(0, 9);
        s.set(0, EAST, 3);
        String before = state(s, 6, 3);
        s.image();
        s.lay(EAST);
        s.lay(EAST);
        s.lose(5);
        s.store(5, 0);
        s.store(8, seedOfThree(0));
        s.go(false);
        s.lift();
        s.lay(EAST);
        due("it leaves", s.go(false), false);
        due("once", s.count(12), 1);
        due("all are other ones", s.look(0, 2) + s.look(3, 3) * 1000 + s.look(4, 3) * 100 + s.look(5, 3) * 10, 234);
        s.back();
        due("all is as it was", state(s, 6, 3), before);
    }

    /** A log that has gone round since. */
    private static void imageOfLog() {
        SandRails s = roundAbout();
        for (int i = 0; i < 11; i++) {
            s.run(1, 200);
        }
        s.run(1, 9);
        String before = logOf(s);
        s.image();
        s.run(0, 3);
        for (int i = 0; i < 13; i++) {
            s.run(1, 200);
        }
        due("the old ones are gone", s.which(0, 0), NONE);
        due("the log is another one", logOf(s).equals(before), false);
        s.back();
        due("99 entries", s.count(11), 99);
        due("the first one", s.which(0, 0), 0);
        due("the log is as it was", logOf(s), before);
        // Kept when it had gone round already.
        for (int i = 0; i < 2; i++) {
            s.run(0, 3);
            s.run(1, 9);
        }
        before = logOf(s);
        s.image();
        s.run(0, 3);
        s.run(1, 9);
        s.back();
        due("the log is as it was", logOf(s), before);
    }

    /** Which rails lay on the square and beside it, by the minutes of every turn, as long as the calls last. */
    private static String logOf(SandRails s) {
        StringBuilder b = new StringBuilder();
        for (int turn = 0; turn <= 48; turn += 4) {
            for (int cell : new int[] {0, 1, 2, 11, 12}) {
                b.append(s.which(cell, 24 * turn + 9)).append(' ');
            }
        }
        return b.append(s.look(0, 4)).append(s.look(1, 4)).append(s.look(2, 4)).toString();
    }

    private static void changeAll(SandRails s) {
        s.dig();
        s.go(false);
        s.lift();
        s.lay(NORTH);
        s.rail(5, 5);
        s.gang(9, 9);
        s.task(0, 2);
        s.ground(50, 99, 2);
        s.lose(4);
        s.steal(3);
        s.store(3, 50);
        s.store(4, 2);
        s.store(5, 1);
        s.store(6, 99);
        s.store(8, 12);
        orders(s, "rest 2");
        s.run(1, 9);
        s.rest(1440);
        s.rest(1440);
        text(s, "go,");
        refused("a wrong text", ARGUMENT, s::orders);
        text(s, "rest 3 ");
    }
}
