/** For each promise of the document ordinary inputs, edges and wrong inputs, with answers worked out by hand. */
public final class PromiseTest extends Kit {
    private PromiseTest() { }

    public static void main(String[] args) {
        begin("PromiseTest");
        promise1();
        promises2And3();
        promises4And5();
        promise4Depth();
        promises6And7();
        promises8To10();
        promise11();
        promise12();
        promise13();
        promise14();
        promise14Split();
        promise15();
        promise15Buried();
        promise16();
        promise17();
        promise18();
        promises19And20();
        promise19Facts();
        promise19Loops();
        promises21And22();
        promise23();
        promise23Water();
        promise24();
        promises25To27();
        promises28And29();
        promise30();
        promise31();
        promises32And33();
        promise34();
        end();
    }

    // ---- 1 to 5

    private static void promise1() {
        SandRails s = new SandRails();
        int[] counts = {0, 0, 0, NONE, 0, 0, 0, NONE, 0, 0, 0, 0, 0};
        for (int what = 0; what < counts.length; what++) {
            due("new count " + what, s.count(what), counts[what]);
        }
        for (int cell = 0; cell < 100; cell++) {
            due("new kind " + cell, s.kind(cell), 0);
        }
        int[] stores = {0, 0, 0, 30, 1, 3, 0, 2, 1};
        for (int what = 0; what < stores.length; what++) {
            due("new store " + what, s.store(what, what == 3 || what == 7 ? 1 : 0), stores[what]);
        }
        due("new line", s.line(0, false), NONE);
        due("new worn", s.worn(), NONE);
        due("new few", s.few(), false);
        due("new back", s.back(), false);
        refused("new look", INDEX, () -> s.look(0, 0));
        refused("new task", INDEX, () -> s.task(0, 0));
        refused("new run", INDEX, () -> s.run(0, 1));
    }

    private static void promises2And3() {
        SandRails s = new SandRails();
        for (int i = 1; i <= 20; i++) {
            due("feed", s.feed(0, 0, 0, 0, 0), 20 * i);
        }
        due("feed beyond 400", s.feed(0, 0, 0, 0, 0), NONE);
        due("end as many", s.end(400), true);
        due("end more", s.end(401), false);
        due("end below 0", s.end(-1), false);
        due("end 381", s.end(381), true);
        due("feed to 401", s.feed(0, 0, 0, 0, 0), NONE);
        due("end 382 of 381", s.end(382), false);
        due("end 380", s.end(380), true);
        due("feed to 400", s.feed(0, 0, 0, 0, 0), 400);
        due("end none", s.end(0), true);
        due("end 1 of none", s.end(1), false);
        // "go" in the two highest bytes of the first number, the third byte is above 127
        s.feed(0x676fe900, 0, 0, 0, 0);
        s.end(3);
        refused("a byte above 127", ARGUMENT, s::orders);
        due("it stands third", s.fault(), 2);
        s.feed(0x676f3b67, 0x6f000000, 0, 0, 0);
        s.end(5);
        due("go;go", s.orders(), 0);
    }

    private static void promises4And5() {
        SandRails s = new SandRails();
        due("fault ahead of any", s.fault(), NONE);
        due("orders 0", orders(s, "go"), 0);
        due("orders 1", orders(s, " lift ; back;fill ;dig "), 1);
        text(s, "go go");
        refused("wrong text", ARGUMENT, s::orders);
        due("its byte", s.fault(), 3);
        due("orders 2", orders(s, "rest 1440"), 2);
        due("no fault", s.fault(), NONE);
        due("orders 3", orders(s, "lay north;lay east;lay south;lay west"), 3);
        text(s, "x");
        refused("wrong text beside four", ARGUMENT, s::orders);
        due("its byte", s.fault(), 0);
        text(s, "go");
        refused("a fifth", FULL, s::orders);
        due("it was no wrong text", s.fault(), NONE);
        due("its tape is used up", s.end(1), false);
        wrong("", 0);
        wrong("   ", 3);
        wrong("g", 0);
        wrong("gogo", 0);
        wrong("goz", 0);
        wrong("go{", 2);
        wrong("go`", 2);
        wrong("rest 5:", 6);
        wrong("rest /5", 5);
        wrong(" layeast", 1);
        wrong("Go", 0);
        wrong("go\t", 2);
        wrong("go;", 3);
        wrong("go; ", 4);
        wrong("go;;go", 3);
        wrong("go )", 3);
        wrong("lay", 3);
        wrong("lay up", 4);
        wrong("lay 1", 4);
        wrong("north", 0);
        wrong("go 2", 3);
        wrong("rest", 4);
        wrong("rest 0", 5);
        wrong("rest 1441", 5);
        wrong("rest 00001", 5);
        wrong("rest 5x", 6);
        wrong("rest -1", 5);
        wrong("again 0 (go)", 6);
        wrong("again 100(go)", 6);
        wrong("again (go)", 6);
        wrong("again 2 go", 8);
        wrong("again 2 ()", 9);
        wrong("again 2 (go", 11);
        wrong("again 2 (go;)", 12);
        wrong("again 2 (go))", 12);
        wrong("again 2 (go) go", 13);
        wrong("again 2 [go]", 8);
        wrong("if (go)", 3);
        wrong("if buried", 9);
        wrong("if buried go", 10);
        wrong("if water (go)", 9);
        wrong("if water = 3 (go)", 9);
        wrong("if water < 10000 (go)", 11);
        wrong("if water < (go)", 11);
        wrong("if water < hour (go)", 11);
        wrong("if 3 < water (go)", 3);
        wrong("if go (go)", 3);
        wrong("if not (go)", 7);
        wrong("if buried and (go)", 14);
        wrong("if buried or or buried (go)", 13);
        wrong("if [buried (go)", 11);
        wrong("if [] (go)", 4);
        wrong("if buried] (go)", 9);
        wrong("while buried not buried (go)", 13);
        wrong("while", 5);
        right("rest1;rest 0001;rest1440");
        right("go;".repeat(132) + "go  ");
        right("again1(go);again 99 ( go;lift )");
        right("if water<0(go)");
        right("while not buried and wood > 9999 or [plates<1and carried<1]or ahead>1 or behind>1 and hour<5 or day<0(go)");
        right("if not[buried](if buried(while buried(dig)))");
    }

    private static void promise4Depth() {
        right("again 1(".repeat(6) + "go" + ")".repeat(6));
        wrong("again 1(".repeat(7) + "go" + ")".repeat(7), 8 * 7 - 1);
        right("if " + "not ".repeat(6) + "buried(go)");
        wrong("if " + "not ".repeat(7) + "buried(go)", 3 + 4 * 6);
        right("if " + "[".repeat(6) + "buried" + "]".repeat(6) + "(go)");
        wrong("if " + "[".repeat(7) + "buried" + "]".repeat(7) + "(go)", 9);
        right("again 1(".repeat(3) + "if not[not buried](go)" + ")".repeat(3));
        right("again 1(".repeat(5) + "if not buried(go)" + ")".repeat(5));
        wrong("again 1(".repeat(5) + "if not[buried](go)" + ")".repeat(5), 40 + 6);
        wrong("again 1(".repeat(6) + "if not buried(go)" + ")".repeat(6), 48 + 3);
        wrong("again 1(".repeat(6) + "if buried(go)" + ")".repeat(6), 48 + 9);
        right("if [[[not not not buried]]] and [[[not not not buried]]] or not not not not not not buried(go)");
        right("again 1(again 1(go);again 1(go));again 1(go)");
    }

    // ---- 6 to 11

    private static void promises6And7() {
        SandRails s = equipped(4);
        due("one cell", s.ground(55, 55, 1), 1);
        due("kind", s.kind(55), 1);
        due("an area", s.ground(23, 45, 2), 9);
        due("corners the other way", s.ground(45, 23, 3), 9);
        due("corners across", s.ground(25, 43, 2), 9);
        due("in it", s.kind(34), 2);
        due("beside it", s.kind(46), 0);
        due("dunes", s.count(9), 9);
        due("all", s.ground(0, 99, 0), 100);
        s.set(0, 1, 3);
        due("but of the line", s.ground(10, 3, 1), 5);
        due("the line's", s.kind(1), 0);
        due("beside the line", s.kind(3), 1);
        refused("from -1", INDEX, () -> s.ground(-1, 3, 1));
        refused("to 100", INDEX, () -> s.ground(3, 100, 9));
        refused("kind 4", ARGUMENT, () -> s.ground(3, 3, 4));
        refused("kind -1", ARGUMENT, () -> s.ground(3, 3, -1));
        refused("cell 100", INDEX, () -> s.kind(100));
        refused("cell -1", INDEX, () -> s.kind(-1));
    }

    private static void promises8To10() {
        SandRails s = new SandRails();
        refused("wear -1", ARGUMENT, () -> s.rail(-1, 0));
        refused("wear 100", ARGUMENT, () -> s.rail(100, 0));
        refused("width -10", ARGUMENT, () -> s.rail(0, -10));
        refused("width 10", ARGUMENT, () -> s.rail(0, 10));
        for (int i = 0; i < 16; i++) {
            due("rail", s.rail(i == 0 ? 99 : 0, i == 0 ? -9 : 9), i);
        }
        refused("a 17th", FULL, () -> s.rail(0, 0));
        refused("a 17th that is wrong", ARGUMENT, () -> s.rail(0, 10));
        due("carried", s.count(2), 16);
        due("wear", s.look(0, 0), 99);
        due("width", s.look(0, 1), -9);
        due("it is carried", s.look(0, 3), 1);
        refused("strength 0", ARGUMENT, () -> s.gang(0, 1));
        refused("strength 10", ARGUMENT, () -> s.gang(10, 1));
        refused("men 0", ARGUMENT, () -> s.gang(1, 0));
        refused("men 31", ARGUMENT, () -> s.gang(1, 31));
        for (int i = 0; i < 4; i++) {
            due("gang", s.gang(9, 30 - i), i);
        }
        refused("a fifth", FULL, () -> s.gang(1, 1));
        refused("a fifth that is wrong", ARGUMENT, () -> s.gang(1, 31));
        due("men", s.count(10), 114);
        due("no task", s.task(3, 2), 0);
        due("task 2", s.task(3, 3), 2);
        due("task 3", s.task(3, 0), 3);
        due("task 0", s.task(3, 0), 0);
        refused("gang 4", INDEX, () -> s.task(4, 9));
        refused("gang -1", INDEX, () -> s.task(-1, 0));
        refused("task 4", ARGUMENT, () -> s.task(0, 4));
        refused("task -1", ARGUMENT, () -> s.task(0, -1));
    }

    private static void promise11() {
        SandRails s = equipped(3);
        int[] least = {0, 0, 0, 1, 0, 0, 0, 1};
        int[] most = {9999, 9999, 30, 60, 9, 18, 100, 4};
        for (int i = 0; i < 8; i++) {
            int what = i;
            s.store(what, most[what]);
            due("store " + what, s.store(what, least[what]), most[what]);
            due("store " + what, s.store(what, most[what]), least[what]);
            refused("store too little of " + what, ARGUMENT, () -> s.store(what, least[what] - 1));
            refused("store too much of " + what, ARGUMENT,
                () -> s.store(what, what == 2 ? 61 : most[what] + 1));
            s.store(3, 30);
        }
        s.store(3, 60);
        due("water that the least tank has left", s.store(2, 60), 1);
        due("tank", s.store(3, 59), 60);
        due("water no more than it", s.count(6), 59);
        refused("water above the tank", ARGUMENT, () -> s.store(2, 60));
        due("seed", s.store(8, Integer.MIN_VALUE), 1);
        due("seed", s.store(8, -7), Integer.MIN_VALUE);
        due("seed", s.store(8, Integer.MAX_VALUE), -7);
        refused("what 9", NO_SUCH, () -> s.store(9, -1));
        refused("what -1", NO_SUCH, () -> s.store(-1, 0));
        s.store(7, 2);
        s.set(0, 1, 3);
        refused("length behind set", STATE, () -> s.store(7, 2));
        refused("wrong length behind set", ARGUMENT, () -> s.store(7, 5));
    }

    // ---- 12 to 18

    private static void promise12() {
        SandRails s = equipped(5);
        s.lose(1);
        s.ground(11, 13, 2);
        s.ground(15, 15, 3);
        refused("cell 100", INDEX, () -> s.set(100, 1, 0));
        refused("way 4", INDEX, () -> s.set(0, 4, 0));
        refused("way -1", INDEX, () -> s.set(0, -1, 2));
        refused("too few", ARGUMENT, () -> s.set(0, 1, 1));
        refused("more than carried", ARGUMENT, () -> s.set(0, 1, 5));
        refused("beyond", ARGUMENT, () -> s.set(10, 0, 3));
        refused("beyond west", ARGUMENT, () -> s.set(21, 3, 3));
        refused("beyond south", ARGUMENT, () -> s.set(81, 2, 3));
        refused("beyond east", ARGUMENT, () -> s.set(8, 1, 3));
        refused("a well", ARGUMENT, () -> s.set(35, 0, 3));
        s.rest(7);
        due("set", s.set(12, 1, 3), 14);
        due("its rails by numbers", s.line(0, true) * 100 + s.line(1, true) * 10 + s.line(2, true), 23);
        due("its cells", s.line(0, false) * 10000 + s.line(1, false) * 100 + s.line(2, false), 121314);
        due("a dune is sand", s.kind(13), 0);
        due("a dune beside is one", s.kind(11), 2);
        due("front", s.count(3), 1);
        due("no wear", s.look(0, 0), 0);
        due("no plates", s.count(4), 100);
        due("no minutes", s.count(0), 7);
        due("log", s.count(11), 3);
        due("in the minute", s.which(12, 7), 0);
        due("not ahead of it", s.which(12, 6), NONE);
        s.rail(0, 0);
        refused("again", STATE, () -> s.set(60, 1, 2));
        refused("again, wrong", ARGUMENT, () -> s.set(60, 1, 3));
        SandRails t = equipped(4);
        t.store(7, 4);
        refused("fewer than long", ARGUMENT, () -> t.set(99, 0, 3));
        due("north", t.set(99, 0, 4), 69);
        due("front of four", t.count(3), 3);
        SandRails u = equipped(2);
        u.store(7, 1);
        due("a train of one", u.set(50, 3, 1), 50);
        due("its front", u.count(3), 0);
        refused("a line of one is set out", STATE, () -> u.set(50, 3, 1));
        refused("its train is so long", STATE, () -> u.store(7, 1));
        due("a rail to it", u.lay(1), 1);
        due("and the train goes", u.go(false), true);
        due("the tail is lifted", u.lift(), 0);
        due("one is left", u.count(1), 1);
    }

    private static void promise13() {
        SandRails s = equipped(4);
        refused("lift ahead of set", STATE, s::lift);
        s.set(0, 1, 4);
        refused("lift under the train", STATE, s::lift);
        s.go(false);
        s.task(0, 0);
        refused("none lifts", STATE, s::lift);
        s.task(0, 1);
        s.gang(9, 1);
        s.task(3, 1);
        s.store(0, 9998);
        due("lift", s.lift(), 0);
        due("minutes 32 by 13", s.count(0), 2 + 3);
        due("plates at most", s.count(4), 9999);
        due("carried", s.look(0, 3), 1);
        due("on no cell", s.look(0, 2), NONE);
        due("wear as it was", s.look(0, 0), 0);
        due("the tail", s.line(0, false), 1);
        due("front", s.count(3), 1);
        due("log", s.which(0, 5), NONE);
        due("it lay there", s.which(0, 4), 0);
        SandRails t = equipped(4);
        t.set(0, 1, 4);
        t.go(false);
        t.ground(10, 10, 2);
        t.store(6, 100);
        t.store(8, seedOfWay(0));
        t.rest(1438);
        due("the tail is buried", t.kind(0), 2);
        refused("lift a buried one", STATE, t::lift);
    }

    private static void promise14() {
        SandRails s = equipped(6);
        refused("lay ahead of set", STATE, () -> s.lay(1));
        s.set(1, 3, 2);
        refused("way 4", INDEX, () -> s.lay(4));
        refused("way -1", INDEX, () -> s.lay(-1));
        refused("beyond", STATE, () -> s.lay(0));
        refused("beyond west", STATE, () -> s.lay(3));
        refused("on the line", STATE, () -> s.lay(1));
        s.ground(10, 10, 3);
        refused("on a well", STATE, () -> s.lay(2));
        s.ground(10, 10, 1);
        s.store(0, 1);
        refused("a plate", STATE, () -> s.lay(2));
        s.store(0, 8);
        s.task(1, 0);
        refused("none lays", STATE, () -> s.lay(2));
        s.task(1, 2);
        s.store(8, seedOfThree(2));
        due("on rock", s.lay(2), 2);
        due("minutes (20 + 2) 4 by 4", s.count(0), 22);
        due("plates", s.count(4), 6);
        due("wear", s.look(2, 0), 3);
        due("width", s.look(2, 1), 1);
        due("rock stays", s.kind(10), 1);
        s.ground(20, 20, 2);
        s.store(8, seedOfThree(0));
        due("on a dune", s.lay(2), 3);
        due("minutes (40 + 3) 4 by 4", s.count(0), 22 + 43);
        due("wear on a dune", s.look(3, 0), 2);
        due("width less", s.look(3, 1), -1);
        due("the dune is sand", s.kind(20), 0);
        s.gang(3, 1);
        s.task(3, 2);
        s.store(8, seedOfThree(1));
        due("on sand", s.lay(1), 4);
        due("minutes (12 + 4) 4 by 7", s.count(0), 65 + 10);
        due("wear on sand", s.look(4, 0), 1);
        due("width as it was", s.look(4, 1), 0);
        due("the head", s.line(4, false), 21);
        due("log", s.which(21, 75), 4);
        due("log ahead of it", s.which(21, 74), NONE);
        due("the train stays", s.count(3), 1);
        s.lay(1);
        refused("none carried", STATE, () -> s.lay(1));
        for (int sign = -1; sign <= 1; sign += 2) {
            SandRails t = equipped(2);
            t.rail(0, 9 * sign);
            t.set(0, 1, 2);
            t.store(8, seedOfThree(1 + sign));
            t.lay(1);
            due("width no wider", t.look(2, 1), 9 * sign);
        }
    }

    private static void promise14Split() {
        SandRails s = equipped(2);
        s.rail(99, 4);
        s.rail(97, 4);
        s.rail(97, 4);
        s.rail(96, 4);
        s.set(0, 1, 2);
        s.store(8, 77);
        due("splits on sand", s.lay(1), NONE);
        due("split", s.look(2, 3), 2);
        due("wear as it was", s.look(2, 0), 99);
        due("width as it was", s.look(2, 1), 4);
        due("on no cell", s.look(2, 2), NONE);
        due("nothing is laid", s.count(1), 2);
        due("plates are gone", s.count(4), 98);
        due("minutes are gone", s.count(0), 14);
        due("nothing in the log", s.count(11), 2);
        due("nothing was drawn", s.store(8, seedOfThree(1)), 77);
        s.ground(2, 2, 2);
        due("97 on a dune", s.lay(1), 3);
        due("wear 99", s.look(3, 0), 99);
        s.ground(3, 3, 1);
        due("97 on rock", s.lay(1), NONE);
        due("96 on rock", s.lay(1), 5);
        due("wear 99", s.look(5, 0), 99);
        SandRails t = equipped(2);
        t.rail(98, 0);
        t.set(0, 1, 2);
        t.ground(2, 2, 2);
        due("98 on a dune", t.lay(1), NONE);
        due("the dune stays", t.kind(2), 2);
        refused("none is carried", STATE, () -> t.lay(1));
    }

    private static void promise15() {
        SandRails s = equipped(2);
        s.rail(0, 4);
        s.rail(0, 8);
        refused("go ahead of set", STATE, () -> s.go(false));
        s.store(7, 1);
        s.set(0, 1, 4);
        refused("no rail behind", STATE, () -> s.go(true));
        s.store(1, 0);
        refused("no wood", STATE, () -> s.go(false));
        s.store(1, 5);
        s.store(4, 9);
        s.store(2, 8);
        refused("no water", STATE, () -> s.go(false));
        s.store(2, 30);
        s.image();
        s.store(2, 9);
        due("just enough water", s.go(false), true);
        due("none is left", s.count(6), 0);
        s.back();
        due("go", s.go(false), true);
        due("water", s.count(6), 21);
        due("wood", s.count(5), 4);
        due("minutes", s.count(0), 2);
        due("front", s.count(3), 1);
        due("it leaves", s.go(false), false);
        due("it stays", s.count(3), 1);
        due("water and thirst", s.count(6), 11);
        due("wood", s.count(5), 3);
        due("an hour", s.count(0), 62);
        due("left", s.count(12), 1);
        s.store(5, 4);
        due("at the limit", s.go(false), true);
        s.store(5, 3);
        s.store(4, 0);
        due("back over it", s.go(true), false);
        due("left twice", s.count(12), 2);
        s.store(5, 18);
        due("back", s.go(true), true);
        due("front", s.count(3), 1);
        refused("no wood left", STATE, () -> s.go(true));
        SandRails t = equipped(3);
        t.set(0, 1, 3);
        due("go to the head", t.go(false), true);
        refused("beyond the head", STATE, () -> t.go(false));
        due("back", t.go(true), true);
        refused("beyond the tail", STATE, () -> t.go(true));
        SandRails u = equipped(1);
        u.rail(0, 9);
        u.rail(0, 9);
        u.set(0, 1, 3);
        due("a joint under the train is none", u.go(false), true);
        due("one at its last cell is", u.go(true), false);
    }

    private static void promise15Buried() {
        for (int at = 0; at < 4; at++) {
            SandRails s = equipped(4);
            s.set(0, 1, 4);
            s.store(6, 100);
            s.ground(10 + at, 10 + at, 2);
            s.store(8, seedOfWay(0));
            s.rest(1440);
            s.store(2, 30);
            due("buried " + at, s.kind(at), 2);
            due("one is", s.count(8), 1);
            if (at < 3) {
                refused("go, buried " + at, STATE, () -> s.go(false));
            } else {
                due("go, the third is no hindrance", s.go(false), true);
                refused("go further", STATE, () -> s.go(false));
                due("back", s.go(true), true);
            }
        }
    }

    private static void promise16() {
        SandRails s = equipped(4);
        refused("fill ahead of set", STATE, s::fill);
        s.set(0, 1, 4);
        s.ground(12, 13, 3);
        refused("no well beside", STATE, s::fill);
        s.ground(11, 11, 3);
        due("nothing came", s.fill(), 0);
        due("minutes all the same", s.count(0), 15);
        s.store(2, 3);
        s.store(3, 60);
        due("it came", s.fill(), 57);
        s.fill();
        s.store(2, 5);
        due("ahead of the thirst", s.fill(), 55);
        due("the thirst", s.count(6), 59);
        due("minutes", s.count(0), 60);
        s.ground(0, 99, 0);
        s.ground(10, 10, 3);
        s.go(false);
        refused("beside the tail alone", STATE, s::fill);
        SandRails t = equipped(2);
        t.set(9, 2, 2);
        t.ground(10, 10, 3);
        t.ground(20, 20, 3);
        refused("not across the edge", STATE, t::fill);
    }

    private static void promise17() {
        SandRails s = equipped(3);
        refused("dig ahead of set", STATE, s::dig);
        s.set(10, 1, 3);
        refused("nothing is buried", STATE, s::dig);
        s.ground(21, 22, 2);
        s.store(6, 100);
        s.store(8, seedOfWay(0));
        s.rest(1440);
        due("two are", s.count(8), 2);
        s.task(2, 0);
        refused("none digs", STATE, s::dig);
        s.task(0, 3);
        s.task(1, 3);
        s.task(2, 3);
        due("dig", s.dig(), 11);
        due("minutes 100 by 12", s.count(0), 1449);
        due("sand", s.kind(11), 0);
        s.task(0, 0);
        s.task(1, 0);
        s.task(2, 0);
        s.gang(1, 1);
        s.task(3, 3);
        due("dig", s.dig(), 12);
        due("minutes 100 by 1", s.count(0), 1549);
        refused("nothing more", STATE, s::dig);
    }

    private static void promise18() {
        SandRails s = new SandRails();
        refused("rest 0", ARGUMENT, () -> s.rest(0));
        refused("rest 1441", ARGUMENT, () -> s.rest(1441));
        refused("rest -1", ARGUMENT, () -> s.rest(-1));
        due("rest 1", s.rest(1), 1);
        s.gang(1, 30);
        s.gang(1, 11);
        s.store(2, 30);
        due("rest 58", s.rest(58), 59);
        due("no thirst", s.count(6), 30);
        due("rest 1", s.rest(1), 60);
        due("thirst 3", s.count(6), 27);
        due("rest 540", s.rest(540), 600);
        due("none is left", s.count(6), 0);
        due("it was enough", s.count(7), NONE);
        s.store(2, 2);
        s.rest(59);
        due("not yet", s.count(7), NONE);
        s.rest(1);
        due("dry", s.count(7), 660);
        due("not below 0", s.count(6), 0);
        s.rest(1440);
        due("the first alone", s.count(7), 660);
        SandRails t = new SandRails();
        t.gang(1, 20);
        t.store(2, 30);
        t.rest(60);
        due("20 men drink 1", t.count(6), 29);
        SandRails u = new SandRails();
        u.ground(0, 0, 2);
        u.store(8, seedOfWay(0));
        u.store(6, 100);
        u.rest(1439);
        due("ahead of the night", u.count(9), 1);
        u.rest(1);
        due("beyond the ground it is gone", u.count(9), 0);
    }

    // ---- 19 and 20

    private static void promises19And20() {
        SandRails s = equipped(4);
        due("where ahead of any", s.where(), NONE);
        orders(s, "rest 10;  lift;rest 20");
        orders(s, "rest 5");
        refused("orders 2", INDEX, () -> s.run(2, 0));
        refused("orders -1", INDEX, () -> s.run(-1, 1));
        refused("most 0", ARGUMENT, () -> s.run(0, 0));
        refused("most 201", ARGUMENT, () -> s.run(0, 201));
        due("refused", s.run(0, 200), 1);
        due("at its byte", s.where(), 10);
        due("the first was done", s.count(0), 10);
        refused("most -1", ARGUMENT, () -> s.run(0, -1));
        due("a call that throws changes nothing", s.where(), 10);
        due("so many were done", s.run(0, 1), 1);
        due("none was refused", s.where(), NONE);
        s.set(0, 1, 4);
        s.go(false);
        due("all three", s.run(0, 200), 3);
        due("none refused", s.where(), NONE);
        due("the clock", s.count(0), 10 + 10 + 2 + 10 + 8 + 20);
        SandRails t = equipped(2);
        t.rail(99, 0);
        t.rail(0, 0);
        t.set(55, 1, 2);
        t.store(5, 0);
        orders(t, "lay north; lay south ;lay south;while ahead>0(go);back;lay east");
        t.store(8, seedOfThree(2));
        due("a split is an act", t.run(0, 200), 2);
        due("none is carried any more", t.where(), 22);
        SandRails u = equipped(2);
        u.rail(0, 9);
        u.set(55, 1, 3);
        orders(u, "go;go;go;lift");
        due("leaves thrice", u.run(0, 200), 3);
        due("left", u.count(12), 3);
        due("lift is refused", u.where(), 9);
        SandRails v = equipped(9);
        v.set(11, 1, 2);
        orders(v, "lay south;lay west;lay west;lay north;lay north;lay east;lay north");
        due("ways", v.run(0, 200), 6);
        due("on the ground's edge", v.where(), 57);
        due("the head", v.line(7, false), 1);
        orders(v, "fill");
        orders(v, "dig");
        orders(v, " back");
        due("fill", v.run(1, 9) * 100 + v.where(), 0);
        due("dig", v.run(2, 9) * 100 + v.where(), 0);
        due("back", v.run(3, 9) * 100 + v.where(), 1);
        v.ground(13, 13, 3);
        due("fill now", v.run(1, 9), 1);
        v.go(false);
        due("back now", v.run(3, 9), 1);
    }

    /** Whether a condition holds. */
    private static boolean holds(SandRails s, String condition) {
        s.image();
        orders(s, "if " + condition + "(rest 1)");
        boolean holds = s.run(1, 5) == 1;
        s.back();
        return holds;
    }

    private static void factIs(SandRails s, String fact, int value) {
        due(fact + " above " + (value - 1), value == 0 || holds(s, fact + " > " + (value - 1)), true);
        due(fact + " not above " + value, holds(s, fact + ">" + value), false);
        due(fact + " below " + (value + 1), holds(s, fact + " < " + (value + 1)), true);
        due(fact + " not below " + value, holds(s, fact + "<" + value), false);
    }

    private static void promise19Facts() {
        SandRails s = equipped(7);
        orders(s, "dig");
        factIs(s, "ahead", 0);
        factIs(s, "behind", 0);
        factIs(s, "carried", 7);
        factIs(s, "hour", 0);
        factIs(s, "day", 0);
        s.store(0, 17);
        s.set(0, 1, 6);
        s.go(false);
        factIs(s, "ahead", 3);
        factIs(s, "behind", 1);
        factIs(s, "carried", 1);
        factIs(s, "water", 29);
        factIs(s, "wood", 99);
        factIs(s, "plates", 17);
        s.rest(1440);
        s.rest(57);
        factIs(s, "day", 1);
        factIs(s, "hour", 0);
        s.rest(1);
        factIs(s, "hour", 1);
        s.rest(1379);
        factIs(s, "hour", 23);
        factIs(s, "day", 1);
        due("buried", holds(s, "buried"), false);
        due("not", holds(s, "not buried"), true);
        due("not not", holds(s, "not not buried"), false);
        due("and binds more than or", holds(s, "day > 0 or buried and buried"), true);
        due("and binds more than or", holds(s, "buried and buried or day > 0"), true);
        due("brackets", holds(s, "[day > 0 or buried] and buried"), false);
        due("brackets behind", holds(s, "buried and [buried or day > 0]"), false);
        due("not binds its atom", holds(s, "not buried and buried"), false);
        due("not brackets", holds(s, "not [buried and buried]"), true);
        due("three ors", holds(s, "buried or buried or day > 0"), true);
        due("three ands", holds(s, "day > 0 and not buried and buried"), false);
        s.ground(10, 10, 2);
        s.store(6, 100);
        s.store(8, seedOfWay(0));
        s.rest(1440);
        due("buried now", holds(s, "buried"), true);
    }

    private static void promise19Loops() {
        SandRails s = new SandRails();
        orders(s, "again 3(again 4(rest 1);if day > 9(rest 1);rest 2)");
        due("turns", s.run(0, 200), 15);
        due("minutes", s.count(0), 18);
        orders(s, "again 99(again 99(rest 1))");
        due("at most 200", s.run(1, 200), 200);
        due("none refused", s.where(), NONE);
        orders(s, "while day < 9999(if buried(dig));again 99(while buried(dig));rest 3;lift");
        due("rows without an act end", s.run(2, 200), 1);
        due("where", s.where(), 68);
        orders(s, "while hour < 9(while hour < 3(rest 60);again 2(rest 60);if hour > 7(rest 600))");
        SandRails t = new SandRails();
        orders(t, "while hour < 9(while hour < 3(rest 60);again 2(rest 60);if hour > 7(rest 600))");
        due("while in while", t.run(0, 200), 10);
        due("it ends by the hour", t.count(0), 9 * 60 + 600);
        SandRails u = new SandRails();
        orders(u, "while hour < 5(if hour < 3(rest 60));rest 1");
        due("a pass without an act ends it", u.run(0, 200), 4);
        SandRails v = new SandRails();
        orders(v, "again 5(if hour < 3(rest 60));rest 1");
        due("again, too", v.run(0, 200), 4);
        due("so many exactly", v.run(0, 1), 1);
        SandRails w = new SandRails();
        orders(w, ("again1(".repeat(6) + "rest1" + ")".repeat(6) + ";").repeat(7) + "rest 9");
        due("a long text", w.run(0, 200), 8);
        due("to its end", w.count(0), 16);
    }

    // ---- 21 to 27

    private static void promises21And22() {
        SandRails s = equipped(3);
        s.rail(99, 5);
        s.rail(12, -3);
        s.set(41, 0, 3);
        due("laid", s.look(1, 3), 0);
        due("cell", s.look(1, 2), 31);
        due("walked", s.look(1, 4), 1);
        due("wear", s.look(4, 0), 12);
        due("width", s.look(4, 1), -3);
        due("cell of a carried one", s.look(4, 2), NONE);
        due("not walked", s.look(4, 4), 0);
        s.lay(0);
        due("split", s.look(3, 3), 2);
        s.lose(4);
        due("lost", s.look(4, 3), 3);
        refused("rail 5", INDEX, () -> s.look(5, 9));
        refused("rail -1", INDEX, () -> s.look(-1, 0));
        refused("what 5", NO_SUCH, () -> s.look(0, 5));
        refused("what -1", NO_SUCH, () -> s.look(0, -1));
        due("line", s.line(2, false), 21);
        due("its rail", s.line(2, true), 2);
        due("behind it", s.line(3, false), NONE);
        due("behind it", s.line(3, true), NONE);
        due("ahead of it", s.line(-1, true), NONE);
        due("far", s.line(Integer.MAX_VALUE, false), NONE);
        // Round a square of four cells with three rails: the rail comes to the cells again.
        SandRails t = equipped(3);
        t.store(2, 30);
        t.set(0, 1, 2);
        orders(t, "lay south;go;lift;lay west;go;lift;lay north;go;lift;lay east;go;lift");
        int[] walked = {2, 4, 4, 4, 4};
        for (int i = 0; i < walked.length; i++) {
            due("round", t.run(0, 200), 12);
            due("walked cells, each once", t.look(0, 4), walked[i]);
            t.store(2, 30);
        }
    }

    private static void promise23() {
        SandRails s = equipped(4);
        refused("cell 100", INDEX, () -> s.route(100, -3));
        refused("not set out, wrong", ARGUMENT, () -> s.route(5, -3));
        refused("not set out", STATE, () -> s.route(5, 0));
        s.set(43, 1, 3);
        refused("cell -1", INDEX, () -> s.route(-1, 0));
        refused("of the line", ARGUMENT, () -> s.route(43, -1));
        refused("the head", ARGUMENT, () -> s.route(45, -1));
        refused("what -3", ARGUMENT, () -> s.route(5, -3));
        refused("what least", ARGUMENT, () -> s.route(5, Integer.MIN_VALUE));
        s.ground(99, 99, 3);
        refused("a well", ARGUMENT, () -> s.route(99, -1));
        due("beside", s.route(46, NONE), 12);
        due("one cell", s.route(46, -2), 1);
        due("it", s.route(46, 0), 46);
        due("no more", s.route(46, 1), NONE);
        due("far behind", s.route(46, Integer.MAX_VALUE), NONE);
        due("round the line", s.route(42, NONE), 60);
        int[] north = {35, 34, 33, 32, 42};
        for (int k = 0; k < 5; k++) {
            due("of several the least number", s.route(42, k), north[k]);
        }
        s.ground(34, 34, 1);
        due("over no rock", s.route(42, 0), 55);
        s.ground(54, 54, 1);
        due("rock on both", s.route(42, NONE), 68);
        due("the least again", s.route(42, 0), 35);
        due("to the rock", s.route(34, NONE), 32);
        s.ground(34, 34, 2);
        due("dune", s.route(34, NONE), 52);
        s.ground(34, 34, 3);
        due("not over a well", s.route(33, NONE), 60);
        SandRails t = equipped(2);
        t.set(0, 1, 2);
        t.ground(2, 2, 2);
        t.ground(3, 3, 1);
        due("round the dune", t.route(3, NONE), 56);
        due("four steps", t.route(3, -2), 4);
        t.ground(11, 12, 1);
        due("through the dune", t.route(3, -2), 2);
        due("its minutes", t.route(3, NONE), 60);
        // Of as many minutes the fewest steps: two dunes ahead of 44, or four rocks by the lesser numbers.
        SandRails v = equipped(2);
        v.set(40, 1, 2);
        v.ground(42, 43, 2);
        v.ground(31, 34, 1);
        v.ground(51, 54, 3);
        due("as many minutes", v.route(44, NONE), 92);
        due("the fewest steps", v.route(44, -2), 3);
        due("over the dunes", v.route(44, 0), 42);
        v.ground(43, 43, 0);
        v.ground(42, 42, 3);
        due("over the rocks", v.route(44, -2), 5);
        SandRails u = equipped(2);
        u.set(0, 1, 2);
        u.ground(2, 2, 3);
        u.ground(11, 11, 3);
        due("no way", u.route(99, NONE), NONE);
        due("no way", u.route(99, -2), NONE);
        due("no way", u.route(99, 0), NONE);
        SandRails w = equipped(2);
        w.set(2, 3, 2);
        w.ground(11, 11, 3);
        due("to cell 0", w.route(0, NONE), 12);
        due("over cell 0", w.route(10, NONE), 24);
        due("it is 0", w.route(10, 0), 0);
        due("from cell 1 to 99", w.route(99, -2), 19);
    }

    private static void promise23Water() {
        SandRails s = equipped(2);
        s.set(0, 1, 2);
        s.store(2, 0);
        due("no water, no step", s.route(2, NONE), NONE);
        s.ground(11, 11, 3);
        due("taken at the head", s.route(2, NONE), 27);
        s.store(2, 1);
        due("enough", s.route(2, NONE), 12);
        due("one for each step", s.route(3, NONE), 39);
        s.store(3, 2);
        s.store(2, 2);
        due("no more than the tank", s.route(5, NONE), NONE);
        due("just so far", s.route(3, NONE), 24);
        due("three steps", s.route(4, NONE), NONE);
        s.ground(12, 12, 3);
        // 2 with 1 left, taken there: 2 more steps
        due("taken on the way", s.route(4, NONE), 12 + 15 + 24);
        due("its cells", s.route(4, -2), 3);
        s.ground(14, 14, 3);
        due("taken twice", s.route(6, NONE), 12 + 15 + 24 + 15 + 24);
        due("as late as it can be", s.reach(6, 12), 1);
        due("the taking is ahead of a step", s.reach(6, 26), 1);
        due("come to", s.reach(6, 27 + 12), 2);
        due("come to the fourth", s.reach(6, 27 + 24 + 15 + 11), 3);
        // A tank of 1: a taking ahead of each step.
        SandRails t = equipped(2);
        t.store(3, 1);
        t.set(0, 1, 2);
        t.ground(11, 19, 3);
        t.store(2, 0);
        due("taking each time", t.route(9, NONE), 8 * 27);
        t.store(2, 1);
        due("but the first", t.route(9, NONE), 12 + 7 * 27);
        // There and back: to a well beside the way, one goes aside for water.
        SandRails u = equipped(2);
        u.set(0, 1, 2);
        u.store(3, 4);
        u.store(2, 2);
        u.ground(21, 21, 3);
        // 11 beside the well 21, taken (4 left), 12, 2, 3, 4
        due("aside for water", u.route(4, NONE), 12 + 15 + 4 * 12);
        int[] cells = {11, 12, 2, 3, 4};
        due("its cells", u.route(4, -2), 5);
        for (int k = 0; k < 5; k++) {
            due("cell " + k, u.route(4, k), cells[k]);
        }
        // Water is not taken where LEFT is kept without: at the head, or at 2, both beside a well.
        SandRails v = equipped(2);
        v.set(0, 1, 2);
        v.store(3, 9);
        v.store(2, 3);
        v.ground(11, 12, 3);
        due("one taking", v.route(5, NONE), 15 + 4 * 12);
        due("not at the head", v.reach(5, 12), 1);
        due("but at 2", v.reach(5, 24), 1);
        due("behind it", v.reach(5, 39), 2);
        // A dead end beside the way: the same cell is gone through twice.
        SandRails w = equipped(2);
        w.set(0, 1, 2);
        w.ground(11, 19, 1);
        w.store(3, 9);
        w.store(2, 4);
        w.ground(22, 22, 3);
        w.ground(2, 2, 0);
        // To 9 it is 8 steps: 2, 12 beside the well (rock), taken, 2 again, 3 to 9.
        due("there and back", w.route(9, NONE), 12 + 20 + 15 + 8 * 12);
        due("a cell twice", w.route(9, 0) * 100 + w.route(9, 2), 202);
        due("ten steps", w.route(9, -2), 10);
    }

    private static void promise24() {
        SandRails s = equipped(2);
        refused("cell 100", INDEX, () -> s.reach(100, -1));
        refused("minutes -1", ARGUMENT, () -> s.reach(5, -1));
        refused("not set out", STATE, () -> s.reach(5, 1));
        s.set(0, 1, 2);
        s.ground(4, 4, 3);
        refused("cell -1", INDEX, () -> s.reach(-1, 1));
        refused("a well", ARGUMENT, () -> s.reach(4, 1));
        refused("of the line", ARGUMENT, () -> s.reach(0, 1));
        refused("below 0", ARGUMENT, () -> s.reach(3, -1));
        due("none", s.reach(3, 0), 0);
        due("none", s.reach(3, 11), 0);
        due("one", s.reach(3, 12), 1);
        due("one", s.reach(3, 23), 1);
        due("two", s.reach(3, 24), 2);
        due("all", s.reach(3, Integer.MAX_VALUE), 2);
        s.store(2, 1);
        due("no route", s.reach(23, 99), NONE);
    }

    private static void promises25To27() {
        SandRails s = equipped(0);
        due("no joints", s.joints(false), 0);
        due("none", s.joints(true), NONE);
        due("none is worn", s.worn(), NONE);
        int[] widths = {0, 3, -1, 8, 8, -9};
        int[] wears = {4, 50, 7, 50, 0, 1};
        for (int i = 0; i < widths.length; i++) {
            due("few " + i, s.few(), i > 2);
            s.rail(wears[i], widths[i]);
        }
        due("carried ones have no joints", s.joints(false), 0);
        s.set(0, 1, 4);
        due("the greatest", s.joints(false), 9);
        due("the first above 3", s.joints(true), 1);
        s.store(5, 4);
        due("above 4", s.joints(true), 2);
        s.store(5, 9);
        due("above 9", s.joints(true), NONE);
        s.store(5, 0);
        due("above 0", s.joints(true), 0);
        due("worn, the least number", s.worn(), 1);
        s.lay(1);
        due("few", s.few(), true);
        SandRails t = equipped(0);
        t.rail(5, 0);
        t.rail(80, 0);
        t.rail(99, 0);
        t.rail(6, 0);
        due("worn", t.worn(), 2);
        t.lose(2);
        due("not a lost one", t.worn(), 1);
        t.store(7, 3);
        due("three are not more than three", t.few(), false);
        t.store(7, 2);
        due("three are more than two", t.few(), true);
        t.lose(0);
        t.lose(1);
        t.lose(3);
        due("none is worn", t.worn(), NONE);
        SandRails u = equipped(1);
        u.rail(0, 9);
        u.store(7, 1);
        u.set(0, 1, 1);
        due("one rail", u.joints(false), 0);
        due("no first one", u.joints(true), NONE);
    }

    // ---- 28 to 34

    private static void promises28And29() {
        SandRails s = equipped(3);
        refused("steal -1", ARGUMENT, () -> s.steal(-1));
        due("steal 0", s.steal(0), 0);
        due("steal", s.steal(40), 40);
        due("plates", s.count(4), 60);
        due("steal all", s.steal(Integer.MAX_VALUE), 60);
        due("no plates", s.count(4), 0);
        due("none", s.steal(1), 0);
        s.set(0, 1, 2);
        refused("rail 3", INDEX, () -> { s.lose(3); return 0; });
        refused("rail -1", INDEX, () -> { s.lose(-1); return 0; });
        refused("laid", STATE, () -> { s.lose(0); return 0; });
        s.lose(2);
        due("lost", s.look(2, 3), 3);
        due("carried", s.count(2), 0);
        refused("lost already", STATE, () -> { s.lose(2); return 0; });
        due("it is a rail of the sixteen", s.rail(0, 0), 3);
    }

    private static void promise30() {
        SandRails s = equipped(3);
        refused("cell 100", INDEX, () -> s.which(100, 0));
        refused("cell -1", INDEX, () -> s.which(-1, 0));
        due("nothing lay", s.which(5, 99), NONE);
        s.set(0, 1, 3);
        s.go(false);
        s.lift();
        due("it lay", s.which(0, 9), 0);
        due("lifted", s.which(0, 10), NONE);
        due("ahead of time", s.which(0, -1), NONE);
        due("least", s.which(0, Integer.MIN_VALUE), NONE);
        due("at last", s.which(1, Integer.MAX_VALUE), 1);
        // The minute is that of the act's end; the night comes behind it.
        SandRails t = equipped(3);
        t.set(0, 1, 2);
        t.rest(1430);
        t.lay(1);
        due("the minute", t.which(2, 1443), NONE);
        due("the minute", t.which(2, 1444), 2);
        // 3 entries of setting out, then 4 x 2 a round; the last 100 are kept.
        SandRails u = equipped(3);
        u.set(0, 1, 3);
        u.store(4, 0);
        u.store(5, 18);
        u.store(1, 9999);
        orders(u, "go;lift;lay south");
        due("a turn", u.run(0, 200), 3);
        orders(u, "go;lift;lay west;go;lift;lay north;go;lift;lay east;go;lift;lay south");
        due("log", u.count(11), 5);
        for (int i = 0; i < 11; i++) {
            due("round", u.run(1, 200), 12);
            due("entries", u.count(11), 5 + 8 * (i + 1));
        }
        due("the oldest", u.which(0, 0), 0);
        due("round", u.run(1, 200), 12);
        due("100 are kept", u.count(11), 100);
        due("the oldest are gone", u.which(0, 0), NONE);
        due("the second is kept", u.which(1, 0), 1);
        due("walked in the log", u.look(0, 4), 4);
        int clock = u.count(0);
        due("a rail lies on the head", u.which(u.line(2, false), clock), u.line(2, true));
        due("another lay there", u.which(u.line(2, false), clock - 1), NONE);
        due("rounds", u.run(1, 200) + u.run(1, 200), 24);
        due("100 are kept", u.count(11), 100);
        due("of 20 rounds ago nothing is told", u.which(2, 0), NONE);
        due("the last is told", u.which(u.line(2, false), u.count(0)), u.line(2, true));
        due("the one ahead of it", u.which(u.line(1, false), u.count(0)), u.line(1, true));
        due("a lifted one", u.which(11 + 12 + 1 + 2 - u.line(0, false) - u.line(1, false) - u.line(2, false),
            u.count(0)), NONE);
    }

    private static void promise31() {
        SandRails s = equipped(3);
        refused("nights -1", ARGUMENT, () -> s.ahead(-1, true));
        refused("nights 31", ARGUMENT, () -> s.ahead(31, false));
        s.set(10, 1, 3);
        s.ground(0, 9, 2);
        s.ground(20, 99, 2);
        s.store(6, 60);
        for (int nights = 0; nights <= 30; nights += 3) {
            int dunes = s.ahead(nights, true);
            int buried = s.ahead(nights, false);
            due("nothing stays", s.count(9) * 100 + s.count(8), 9000);
            s.image();
            for (int i = 0; i < nights; i++) {
                s.rest(1440);
            }
            due("dunes after " + nights, s.count(9), dunes);
            due("buried after " + nights, s.count(8), buried);
            s.back();
        }
        // Westwards: 5 leaves for 4 ahead of 6, which leaves for 5; eastwards 5 stays behind 6.
        for (int way = 1; way <= 3; way += 2) {
            SandRails t = new SandRails();
            t.ground(5, 6, 2);
            t.store(6, 100);
            t.store(8, seedOfWay(way));
            t.rest(1440);
            due("the first", t.kind(way == 1 ? 5 : 4), 2);
            due("the second", t.kind(way == 1 ? 7 : 5), 2);
            due("left", t.kind(6), 0);
        }
        for (int kind = 1; kind <= 3; kind += 2) {
            SandRails u = new SandRails();
            u.ground(5, 5, 2);
            u.ground(6, 6, kind);
            u.store(6, 100);
            u.store(8, seedOfWay(1));
            u.rest(1440);
            due("it does not leave", u.kind(5) * 10 + u.kind(6), 20 + kind);
        }
        SandRails v = new SandRails();
        v.ground(0, 99, 2);
        v.rest(1440);
        due("without wind all stay", v.count(9), 100);
        int seed = 1;
        for (int i = 0; i < 101; i++) {
            seed = 1103515245 * seed + 12345;
        }
        due("101 draws", v.store(8, 0), seed);
        // The draw for a dune is below WIND, not at it.
        int second = 1103515245 * (1103515245 * 9 + 12345) + 12345;
        int drawn = (second >>> 16 & 0x7fff) % 100;
        for (int wind = drawn; wind <= drawn + 1; wind++) {
            SandRails x = new SandRails();
            x.ground(55, 55, 2);
            x.store(6, wind);
            x.store(8, 9);
            x.rest(1440);
            due("wind " + wind + " by a draw of " + drawn, x.kind(55), wind > drawn ? 0 : 2);
        }
        // A dune that moves on is not moved twice.
        SandRails w = new SandRails();
        w.ground(50, 50, 2);
        w.store(6, 100);
        w.store(8, seedOfWay(1));
        w.rest(1440);
        due("one cell on", w.kind(51), 2);
    }

    private static void promises32And33() {
        SandRails s = equipped(4);
        due("none kept", s.back(), false);
        orders(s, "go");
        s.run(0, 1);
        s.set(0, 1, 3);
        s.image();
        orders(s, "rest 3;dig");
        s.run(1, 9);
        s.go(false);
        s.lift();
        s.lay(1);
        s.gang(1, 1);
        s.task(0, 0);
        s.rail(1, 1);
        s.ground(50, 59, 2);
        s.store(3, 60);
        s.store(4, 2);
        s.store(5, 2);
        s.store(6, 2);
        s.rest(1440);
        s.rest(1440);
        text(s, "rest 7 (");
        refused("a wrong text", ARGUMENT, s::orders);
        text(s, "rest 7");
        due("back", s.back(), true);
        due("fault stays", s.fault(), 7);
        due("where comes back", s.where(), 0);
        due("clock", s.count(0), 0);
        due("line", s.count(1), 3);
        due("tail", s.line(0, true), 0);
        due("front", s.count(3), 1);
        due("plates", s.count(4), 100);
        due("wood", s.count(5), 100);
        due("water", s.count(6), 30);
        due("dry", s.count(7), NONE);
        due("dunes", s.count(9), 0);
        due("men", s.count(10), 3);
        due("log", s.count(11), 3);
        due("wear", s.look(0, 0), 0);
        refused("no rail 4", INDEX, () -> s.look(4, 0));
        refused("no orders 1", INDEX, () -> s.run(1, 1));
        due("the tape stays", s.orders(), 1);
        due("it is another text", s.run(1, 1) * 100 + s.count(0), 107);
        due("task", s.task(0, 1), 1);
        due("tank", s.store(3, 30), 30);
        due("steam", s.store(4, 1), 1);
        due("limit", s.store(5, 3), 3);
        due("wind", s.store(6, 0), 0);
        due("seed", s.store(8, 1), 1);
        due("back again", s.back(), true);
        due("clock", s.count(0), 0);
        s.rest(5);
        s.image();
        s.rest(5);
        s.back();
        due("the latest image", s.count(0), 5);
    }

    private static void promise34() {
        SandRails s = equipped(4);
        s.rail(0, 9);
        s.set(30, 1, 3);
        s.ground(20, 21, 2);
        s.store(6, 100);
        s.store(8, seedOfWay(2));
        s.rest(1439);
        s.rest(1);
        int[] due = {1440, 3, 2, 1, 100, 100, 6, NONE, 2, 2, 3, 3, 0};
        for (int what = 0; what < due.length; what++) {
            due("count " + what, s.count(what), due[what]);
        }
        due("count 13", s.count(13), NONE);
        due("count -1", s.count(-1), NONE);
        due("count least", s.count(Integer.MIN_VALUE), NONE);
        due("count most", s.count(Integer.MAX_VALUE), NONE);
        s.rest(360);
        due("dry not yet", s.count(7), NONE);
        s.rest(60);
        due("dry", s.count(7), 1440 + 420);
    }
}
