/** The sentences of "Terms", ==== 3: ORDERS and RUN, each with its edges. */
public final class EdgeOrdersTest extends Kit {
    private EdgeOrdersTest() { }

    public static void main(String[] args) {
        begin("EdgeOrdersTest");
        fourTexts();
        rows();
        ordersOfEachKind();
        waysOfLay();
        orAndAnd();
        atoms();
        factWords();
        numbers();
        depth();
        words();
        blanks();
        empty();
        firstWrongThing();
        wrongThings();
        moreMustCome();
        factCarried();
        factAhead();
        factBehind();
        factHour();
        factDay();
        factBuried();
        atMost();
        stops();
        where();
        noActs();
        withoutAnAct();
        splitAndLeaving();
        end();
    }

    // ---- texts

    private static void fourTexts() {
        says("ORDERS (at most 4 texts, numbered from 0 on):");
        SandRails s = new SandRails();
        for (int i = 0; i < 4; i++) {
            int n = i;
            refused("orders " + i + " are none yet", INDEX, () -> s.run(n, 1));
            due("orders", orders(s, "rest " + (i + 1)), i);
        }
        text(s, "rest 5");
        refused("a fifth", FULL, s::orders);
        refused("orders 4", INDEX, () -> s.run(4, 1));
        refused("orders -1", INDEX, () -> s.run(-1, 1));
        for (int i = 0; i < 4; i++) {
            int clock = s.count(0);
            due("run", s.run(i, 200), 1);
            due("each has its own text", s.count(0) - clock, i + 1);
        }
    }

    private static void rows() {
        says("ROW: ORDER { ; ORDER }.");
        right("go");
        right("go;go");
        right("again 1(go)");
        right("again 1(go;go)");
        wrong(";go", 0);
        wrong("go;", 3);
        wrong("go;;go", 3);
        wrong("go go", 3);
        wrong("go,go", 2);
        wrong("again 1(;go)", 8);
        wrong("again 1(go;)", 11);
        wrong("again 1(go go)", 11);
        SandRails s = new SandRails();
        orders(s, "rest 1;rest 20;rest 300");
        due("three", s.run(0, 200), 3);
        due("all", s.count(0), 321);
        right("go;".repeat(132) + "back");
        wrong("go;".repeat(132) + "go; ", 400);
        SandRails t = new SandRails();
        due("a text of 400 bytes", orders(t, "rest 1;".repeat(56) + "rest 200"), 0);
        due("57 orders", t.run(0, 200), 57);
        due("all of them", t.count(0), 256);
        mostRows();
    }

    /** As many rows as a text may hold: seven times six within one another, then five. */
    private static void mostRows() {
        SandRails s = equipped(10);
        s.store(7, 1);
        s.set(0, EAST, 10);
        String text = ("again1(".repeat(6) + "go" + ")".repeat(6) + ";").repeat(7) + "again1(".repeat(5) + "go" + ")".repeat(5);
        due("bytes", text.length(), 399);
        due("a long text", orders(s, text), 0);
        due("to its end", s.run(0, 200), 8);
        due("the front", s.count(3), 8);
    }

    private static void ordersOfEachKind() {
        says("ORDER: lift | lay WAY | go | back | fill | dig | rest NUMBER | again NUMBER ( ROW ) "
            + "| if C ( ROW ) | while C ( ROW ).");
        SandRails s = buriedLine(4, 2, 3);
        s.rail(0, 0);
        s.ground(21, 21, 3);
        s.ground(4, 4, 0);
        // The train on 10 and 11 of a line from 10 to 13.
        orders(s, "dig;go;back;go;lift;fill;lay north;rest 7");
        int[] clocks = {25, 27, 29, 31, 39, 54, 69, 76};
        for (int most = 1; most <= 8; most++) {
            s.image();
            due("so many", s.run(0, most), most);
            due("the clock behind " + most, s.count(0), 1440 + clocks[most - 1]);
            due("where", s.where(), NONE);
            s.back();
        }
        s.run(0, 8);
        due("lifted, then laid again", s.line(3, true), 0);
        due("northwards", s.line(3, false), 3);
        due("gone", s.count(3), 1);
        SandRails t = new SandRails();
        orders(t, "again 3(rest 1);if day<1(rest 10);if day>0(rest 20);while hour<2(rest 60)");
        due("turns, ifs and whiles", t.run(0, 200), 6);
        due("the clock", t.count(0), 133);
        for (String wrong : new String[] {"lifts", "lay", "halt", "not buried", "buried", "or", "water<1", "east", "1",
            "(go)", "[go]", "(", ")", "else(go)"}) {
            wrong(wrong, wrong.equals("lay") ? 3 : 0);
        }
        wrong("lift 1", 5);
        wrong("go east", 3);
        wrong("fill(go)", 4);
        wrong("rest(go)", 4);
        wrong("again(go)", 5);
        wrong("if(go)", 2);
        wrong("while(go)", 5);
        wrong("if buried(go)(go)", 13);
        wrong("again 2 3(go)", 8);
        wrong("again 2[go]", 7);
    }

    private static void waysOfLay() {
        says("WAY: north | east | south | west (0 to 3).");
        String[] names = {"north", "east", "south", "west"};
        int[] to = {45, 56, 65, 54};
        for (int way = 0; way < 4; way++) {
            SandRails s = equipped(2);
            s.store(7, 1);
            s.set(55, EAST, 1);
            orders(s, "lay " + names[way]);
            due(names[way], s.run(0, 1), 1);
            due("its cell", s.line(1, false), to[way]);
        }
        wrong("lay up", 4);
        wrong("lay 0", 4);
        wrong("lay n", 4);
        wrong("lay norths", 4);
        wrong("lay ;go", 4);
        wrong("lay go", 4);
        wrong("lay north east", 10);
    }

    /** Whether a condition holds. */
    private static boolean holds(SandRails s, String condition) {
        s.image();
        int number = orders(s, "if " + condition + "(rest 1)");
        boolean holds = s.run(number, 5) == 1;
        s.back();
        return holds;
    }

    private static void orAndAnd() {
        says("C: ALL { or ALL }; ALL: ATOM { and ATOM };");
        // 1 holds, 0 does not; all conditions of four atoms with or and and, and binding more.
        SandRails[] some = {new SandRails(), new SandRails(), new SandRails(), new SandRails()};
        String[] atom = {"day > 0", "day < 1"};
        String[] joint = {" or ", " and "};
        int at = 0;
        for (int bits = 0; bits < 128; bits++) {
            boolean a = (bits & 1) > 0;
            boolean b = (bits & 2) > 0;
            boolean c = (bits & 4) > 0;
            boolean d = (bits & 8) > 0;
            boolean x = (bits & 16) > 0;
            boolean y = (bits & 32) > 0;
            boolean z = (bits & 64) > 0;
            String condition = atom[bits & 1] + joint[x ? 1 : 0] + atom[bits >> 1 & 1] + joint[y ? 1 : 0]
                + atom[bits >> 2 & 1] + joint[z ? 1 : 0] + atom[bits >> 3 & 1];
            boolean want = x ? y ? z ? a && b && c && d : a && b && c || d : z ? a && b || c && d : a && b || c || d
                : y ? z ? a || b && c && d : a || b && c || d : z ? a || b || c && d : a || b || c || d;
            due(condition, holds(some[at++ % 4], condition), want);
        }
        wrong("if buried or (go)", 13);
        wrong("if buried and (go)", 14);
        wrong("if or buried(go)", 3);
        wrong("if and buried(go)", 3);
        wrong("if buried or and buried(go)", 13);
        wrong("if buried buried(go)", 10);
    }

    private static void atoms() {
        says("ATOM: not ATOM | [ C ] | buried | FACT < NUMBER | FACT > NUMBER.");
        SandRails s = new SandRails();
        due("buried", holds(s, "buried"), false);
        due("not buried", holds(s, "not buried"), true);
        due("not not", holds(s, "not not buried"), false);
        due("not of its atom alone", holds(s, "not buried or day < 1"), true);
        due("not of its atom alone", holds(s, "not day < 1 or day < 1"), true);
        due("not of a bracket", holds(s, "not [day < 1 or day < 1]"), false);
        due("not of the first in and", holds(s, "not buried and buried"), false);
        due("not of the second", holds(s, "buried or not buried"), true);
        due("bracket", holds(s, "[buried]"), false);
        due("bracket of or", holds(s, "[day < 1 or buried] and buried"), false);
        due("bracket behind and", holds(s, "buried and [buried or day < 1]"), false);
        due("brackets in brackets", holds(s, "[[day < 1] and [not buried]]"), true);
        s.store(0, 5);
        due("below", holds(s, "plates < 6"), true);
        due("not below itself", holds(s, "plates < 5"), false);
        due("above", holds(s, "plates > 4"), true);
        due("not above itself", holds(s, "plates > 5"), false);
        wrong("if not(go)", 6);
        wrong("if [](go)", 4);
        wrong("if [buried(go)", 10);
        wrong("if buried](go)", 9);
        wrong("if (buried)(go)", 3);
        wrong("if buried<1(go)", 9);
        wrong("if day(go)", 6);
        wrong("if day=1(go)", 6);
        wrong("if day<=1(go)", 7);
        wrong("if day<>1(go)", 7);
        wrong("if day<(go)", 7);
        wrong("if day<day(go)", 7);
        wrong("if 1<day(go)", 3);
        wrong("if go(go)", 3);
        wrong("if <1(go)", 3);
    }

    private static void factWords() {
        says("FACT: water | wood | plates | carried | ahead | behind | hour | day.");
        SandRails s = equipped(9);
        s.set(0, EAST, 6);
        s.go(false);
        s.store(0, 17);
        s.store(1, 18);
        s.store(2, 19);
        s.rest(1440);
        s.rest(1440);
        s.rest(238);
        s.store(2, 19);
        String[] facts = {"water", "wood", "plates", "carried", "ahead", "behind", "hour", "day"};
        int[] values = {19, 18, 17, 3, 3, 1, 4, 2};
        for (int i = 0; i < 8; i++) {
            due(facts[i], holds(s, facts[i] + ">" + (values[i] - 1)), true);
            due(facts[i], holds(s, facts[i] + ">" + values[i]), false);
            due(facts[i], holds(s, facts[i] + "<" + (values[i] + 1)), true);
            due(facts[i], holds(s, facts[i] + "<" + values[i]), false);
        }
        wrong("if tank<1(go)", 3);
        wrong("if waters<1(go)", 3);
        wrong("if minute<1(go)", 3);
        wrong("if lift<1(go)", 3);
    }

    private static void numbers() {
        says("NUMBER: 1 to 4 digits (rest 1 to 1440; again 1 to 99; others to 9999).");
        right("rest 1;rest 1440;rest 01;rest 0001;rest 0999");
        wrong("rest 0", 5);
        wrong("rest 0000", 5);
        wrong("rest 1441", 5);
        wrong("rest 9999", 5);
        wrong("rest 00001", 5);
        wrong("rest 01440", 5);
        wrong("rest 99999999999999999999", 5);
        right("again 1(go);again 99(go);again 0099(go);again 001(go)");
        wrong("again 0(go)", 6);
        wrong("again 000(go)", 6);
        wrong("again 100(go)", 6);
        wrong("again 9999(go)", 6);
        wrong("again 00001(go)", 6);
        right("if water<0 or water>0000 or wood<9999 or plates>9999 or day<0009(go)");
        wrong("if water<10000(go)", 9);
        wrong("if water>00000(go)", 9);
        wrong("rest", 4);
        wrong("rest -1", 5);
        wrong("rest +1", 5);
        wrong("rest 1.5", 6);
        wrong("rest five", 5);
        wrong("rest 1 2", 7);
        SandRails s = new SandRails();
        orders(s, "rest 0060;again 0003(rest 1440);if plates>0099(rest 9);if plates<0101(rest 9)");
        s.store(0, 100);
        due("with zeros ahead", s.run(0, 200), 6);
        due("the clock", s.count(0), 60 + 3 * 1440 + 18);
    }

    private static void depth() {
        says("( and [ and not within one another at most 6 deep, together.");
        right("again 1(".repeat(6) + "go" + ")".repeat(6));
        right("if " + "not ".repeat(6) + "buried(go)");
        right("if " + "[".repeat(6) + "buried" + "]".repeat(6) + "(go)");
        right("again 1(again 1(again 1(if[[[buried]]](go))))");
        right("again 1(again 1(again 1(again 1(again 1(while not buried(go))))))");
        right("if not[not[not[buried]]](go)");
        right("if not not not[[[buried]]](if not[buried](again 1(again 1(again 1(again 1(go))))))");
        // One behind another is not within one another.
        right("if [[[[[[buried]]]]]]and[[[[[[buried]]]]]]or not not not not not not buried(go)");
        right(("again1(".repeat(6) + "go" + ")".repeat(6) + ";").repeat(7) + "go");
        right("if not buried and not buried and not buried and not buried and not buried and not buried"
            + " and not buried and not buried(go)");
        SandRails s = new SandRails();
        orders(s, "again 2(".repeat(6) + "rest 1" + ")".repeat(6));
        due("64 turns", s.run(0, 200), 64);
        SandRails t = new SandRails();
        orders(t, "while day<1(".repeat(5) + "if not day>0(rest 60" + ")".repeat(6));
        due("to the next day", t.run(0, 200), 24);
    }

    private static void words() {
        says("Words are as long as a to z go on;");
        wrong("gogo", 0);
        wrong("goback", 0);
        wrong("layeast", 0);
        wrong("lay eastgo", 4);
        wrong("ifburied(go)", 0);
        wrong("if notburied(go)", 3);
        wrong("if buriedand buried(go)", 3);
        wrong("if buried andburied(go)", 10);
        right("rest5;again2(go)");
        right("if day<1and hour>2or buried(go)");
        right("if not[buried]and not[buried](go)");
        wrong("g", 0);
        wrong("goo", 0);
        wrong("Go", 0);
        wrong("gO", 0);
        wrong("GO", 0);
        wrong("goa", 0);
        wrong("goz", 0);
        wrong("zgo", 0);
        wrong("rest1z", 5);
        wrong("rest1a", 5);
        nearWords();
        wrong("go_", 2);
        wrong("go`", 2);
        wrong("go{", 2);
        wrong("go0", 2);
        wrong("lif t", 0);
        wrong("again 2x(go)", 7);
    }

    /** Each word with another first letter, another last one, one less or one more is none. */
    private static void nearWords() {
        String[][] texts = {{"", "lift", ""}, {"", "lay", " east"}, {"", "go", ""}, {"", "back", ""}, {"", "fill", ""},
            {"", "dig", ""}, {"", "rest", " 1"}, {"", "again", " 1(go)"}, {"", "if", " buried(go)"},
            {"", "while", " buried(go)"}, {"lay ", "north", ""}, {"lay ", "east", ""}, {"lay ", "south", ""},
            {"lay ", "west", ""}, {"if ", "buried", "(go)"}, {"if ", "not", " buried(go)"}, {"if ", "water", "<1(go)"},
            {"if ", "wood", "<1(go)"}, {"if ", "plates", "<1(go)"}, {"if ", "carried", "<1(go)"},
            {"if ", "ahead", "<1(go)"}, {"if ", "behind", "<1(go)"}, {"if ", "hour", "<1(go)"}, {"if ", "day", "<1(go)"},
            {"if buried ", "or", " buried(go)"}, {"if buried ", "and", " buried(go)"}};
        for (String[] t : texts) {
            String word = t[1];
            right(t[0] + word + t[2]);
            for (String other : new String[] {"x" + word.substring(1), word.substring(0, word.length() - 1) + "x",
                word.substring(0, word.length() - 1), word + "s", "a" + word}) {
                wrong(t[0] + other + t[2], t[0].length());
            }
        }
    }

    private static void blanks() {
        says("between all there may be blanks (32), also ahead and behind.");
        right("  go  ");
        right("   again   2   (   go   ;   lay    east   )   ;   rest   3   ");
        right("  if  not  [  water  <  3  or  buried  ]  and  day  >  1  (  go  )  ");
        right("again2(go;lay east);rest3");
        right(" ".repeat(398) + "go");
        right("go" + " ".repeat(398));
        wrong("g o", 0);
        wrong("rest 1 0", 7);
        wrong("lay no rth", 4);
        for (int sign : new int[] {0, 9, 10, 13, 31, 33, 127, 128, 160, 255}) {
            wrong((char) sign + "go", 0);
            wrong("go" + (char) sign, 2);
            wrong("go;" + (char) sign + "go", 3);
        }
    }

    private static void empty() {
        says("A text that is empty, or blanks alone, has no ORDER (a ROW has one at least).");
        wrong("", 0);
        wrong(" ", 1);
        wrong("   ", 3);
        wrong(" ".repeat(400), 400);
        wrong("again 1()", 8);
        wrong("again 1(  )", 10);
        wrong("if buried()", 10);
        wrong("while buried( )", 14);
    }

    private static void firstWrongThing() {
        says("The first wrong byte: the begin of the first thing that cannot stand there");
        wrong("xx;yy", 0);
        wrong("  xx;yy", 2);
        wrong("go;xx;yy", 3);
        wrong("go  ;  xx", 7);
        wrong("rest 9999;again 0(go)", 5);
        wrong("go)", 2);
        wrong("go  )", 4);
        wrong("go]", 2);
        wrong("again 1(go))", 11);
        wrong("again 1(go]", 10);
        wrong("lay east west", 9);
        wrong("if  day  =  1(go)", 9);
        // What is wrong behind it is not told.
        wrong("again 1() x", 8);
        wrong("again 1(;) x", 8);
        wrong("if buried() x", 10);
        wrong("if buried or (go) x", 13);
        wrong("if buried and (go) x", 14);
        wrong("if not (go) x", 7);
        wrong("if water < (go) x", 11);
        wrong("if water (go) x", 9);
        wrong("if (go) x", 3);
        wrong("if [] (go) x", 4);
        wrong("if [buried (go) x", 11);
        wrong("if buried ; x", 10);
        wrong("while (go) x", 6);
        wrong("while buried ; x", 13);
        wrong("rest ; x", 5);
        wrong("rest 0 ; x", 5);
        wrong("lay ; x", 4);
        wrong("again (go) x", 6);
        wrong("again 0 (go) x", 6);
        wrong("again 2 ; x", 8);
        wrong("again ; x", 6);
        wrong("if ; x", 3);
        wrong("while ; x", 6);
        wrong("again 1(again ) x", 14);
        wrong("again 1(if ) x", 11);
        wrong("again 1(while ) x", 14);
        wrong("again 1(lay ) x", 12);
        wrong("go go x", 3);
        SandRails s = new SandRails();
        for (int i = 0; i < 4; i++) {
            orders(s, "go");
        }
        text(s, "go;stop");
        refused("wrong beside four", ARGUMENT, s::orders);
        due("its byte", s.fault(), 3);
    }

    private static void wrongThings() {
        says("(a NUMBER of more digits, or out of its bounds; a word that is none; "
            + "the (, [ or not that is a 7th one deep),");
        wrong("go;rest 12345", 8);
        wrong("go;rest 1441", 8);
        wrong("again 100 (xx)", 6);
        wrong("go;stop", 3);
        wrong("if sand<1(go)", 3);
        wrong("lay left", 4);
        wrong("if buried xor buried(go)", 10);
        wrong("again 1(".repeat(7) + "go" + ")".repeat(7), 7 * 8 - 1);
        wrong("if " + "not ".repeat(7) + "buried(go)", 3 + 6 * 4);
        wrong("if " + "[".repeat(7) + "buried" + "]".repeat(7) + "(go)", 3 + 6);
        wrong("again 1(".repeat(6) + "if buried(go)" + ")".repeat(6), 6 * 8 + 9);
        wrong("again 1(".repeat(6) + "if[buried](go)" + ")".repeat(6), 6 * 8 + 2);
        wrong("again 1(".repeat(6) + "while not buried(go)" + ")".repeat(6), 6 * 8 + 6);
        wrong("again 1(".repeat(5) + "if not[buried](go)" + ")".repeat(5), 5 * 8 + 6);
        wrong("again 1(".repeat(5) + "if[not buried](go)" + ")".repeat(5), 5 * 8 + 3);
        wrong("if not[not[not[not buried]]](go)", 15);
        wrong("if buried and [[[[[[[buried(go)", 14 + 6);
        // A 7th deep is told ahead of what is wrong behind it.
        wrong("again 1(".repeat(7) + "stop", 7 * 8 - 1);
    }

    private static void moreMustCome() {
        says("or the text's length, if more must come.");
        String[] begins = {"lay", "rest", "again", "again 2", "again 2(", "again 2(go", "again 2(go;", "if", "if not",
            "if not[", "if not[water", "if not[water<", "if not[water<1", "if not[water<1]", "if buried and",
            "if buried or", "if buried", "if buried(", "while", "while day>1(lay", "go;"};
        for (String begin : begins) {
            wrong(begin, begin.length());
            wrong(begin + "  ", begin.length() + 2);
            wrong("  " + begin, begin.length() + 2);
        }
        wrong("", 0);
        wrong("go;".repeat(133) + " ", 400);
    }

    // ---- facts

    private static void factCarried() {
        says("carried: CARRIED RAILS;");
        SandRails s = equipped(4);
        due("all", holds(s, "carried > 3 and carried < 5"), true);
        s.set(0, EAST, 2);
        due("two", holds(s, "carried > 1 and carried < 3"), true);
        s.lose(2);
        due("not a lost one", holds(s, "carried > 0 and carried < 2"), true);
        s.lay(EAST);
        due("none", holds(s, "carried < 1"), true);
        s.rail(99, 0);
        s.lay(EAST);
        due("nor one that is split", holds(s, "carried < 1"), true);
        s.go(false);
        s.lift();
        due("one that was lifted", holds(s, "carried > 0 and carried < 2"), true);
        due("none at first", holds(new SandRails(), "carried < 1"), true);
        due("without a line nothing is ahead", holds(equipped(3), "ahead < 1"), true);
        due("nor behind", holds(equipped(3), "behind < 1"), true);
    }

    private static void factAhead() {
        says("ahead: CELLS of THE LINE between the FRONT and its end;");
        for (int length = 1; length <= 4; length++) {
            SandRails s = equipped(6);
            s.store(7, length);
            s.set(0, EAST, 6);
            for (int ahead = 6 - length; ahead >= 0; ahead--) {
                due(ahead + " below", holds(s, "ahead < " + (ahead + 1)), true);
                due(ahead + " above", ahead == 0 || holds(s, "ahead > " + (ahead - 1)), true);
                if (ahead > 0) {
                    s.go(false);
                }
            }
            orders(s, "while ahead > 0 (go)");
            due("at the end", s.run(0, 200), 0);
        }
    }

    private static void factBehind() {
        says("behind: those between the TAIL and THE TRAIN's last CELL;");
        for (int length = 1; length <= 4; length++) {
            SandRails s = equipped(6);
            s.store(7, length);
            s.set(0, EAST, 6);
            for (int behind = 0; behind <= 6 - length; behind++) {
                due(behind + " below", holds(s, "behind < " + (behind + 1)), true);
                due(behind + " above", behind == 0 || holds(s, "behind > " + (behind - 1)), true);
                if (behind < 6 - length) {
                    s.go(false);
                }
            }
            orders(s, "while behind > 0 (lift)");
            due("all of them", s.run(0, 200), 6 - length);
            due("none is refused", s.where(), NONE);
            due("the train's alone", s.count(1), length);
        }
    }

    /** Whether a fact is a number and no other one. */
    private static boolean is(SandRails s, String fact, int value) {
        return holds(s, fact + "<" + (value + 1) + " and not " + fact + "<" + value);
    }

    private static void factHour() {
        says("hour: CLOCK by 60, rounded down, modulo 24;");
        SandRails s = new SandRails();
        due("0", is(s, "hour", 0), true);
        s.rest(59);
        due("59", is(s, "hour", 0), true);
        s.rest(1);
        due("60", is(s, "hour", 1), true);
        s.rest(1319);
        due("1379", is(s, "hour", 22), true);
        s.rest(1);
        due("1380", is(s, "hour", 23), true);
        s.rest(59);
        due("1439", is(s, "hour", 23), true);
        s.rest(1);
        due("1440", is(s, "hour", 0), true);
        s.rest(1439);
        due("2879", is(s, "hour", 23), true);
        s.rest(61);
        due("2940", is(s, "hour", 1), true);
    }

    private static void factDay() {
        says("day: by 1440;");
        SandRails s = new SandRails();
        due("0", is(s, "day", 0), true);
        s.rest(1439);
        due("1439", is(s, "day", 0), true);
        s.rest(1);
        due("1440", is(s, "day", 1), true);
        s.rest(1439);
        due("2879", is(s, "day", 1), true);
        s.rest(1);
        due("2880", is(s, "day", 2), true);
        orders(s, "again 99(rest 1440)");
        s.run(0, 99);
        due("no modulo", is(s, "day", 101), true);
    }

    private static void factBuried() {
        says("buried: some RAIL is.");
        due("none set out", holds(equipped(2), "buried"), false);
        due("none is", holds(buriedLine(4, 2), "buried"), false);
        for (int at = 0; at < 4; at++) {
            due("at " + at, holds(buriedLine(4, 2, at), "buried"), true);
        }
        due("all are", holds(buriedLine(4, 2, 0, 1, 2, 3), "buried"), true);
        SandRails s = buriedLine(4, 2);
        s.ground(14, 14, 2);
        due("a dune beside the line", holds(s, "buried"), false);
        SandRails t = buriedLine(4, 2, 1, 3);
        orders(t, "while buried(dig)");
        due("both are dug out", t.run(0, 200), 2);
        due("none is", t.count(8), 0);
    }

    // ---- RUN

    private static void atMost() {
        says("RUN: ORDERS one behind another, at most so many (1 to 200) ACTS;");
        SandRails s = new SandRails();
        orders(s, "rest 1;again 99(again 99(rest 2))");
        orders(s, "again 50(again 4(rest 1))");
        for (int most : new int[] {0, 201, -1, LEAST, MOST}) {
            refused("most " + most, ARGUMENT, () -> s.run(0, most));
        }
        due("nothing was done", s.count(0), 0);
        due("the least", s.run(0, 1), 1);
        due("the first of them", s.count(0), 1);
        due("from its begin again", s.run(0, 2), 2);
        due("the clock", s.count(0), 4);
        due("the most", s.run(0, 200), 200);
        due("the clock", s.count(0), 4 + 1 + 199 * 2);
        due("just 200", s.run(1, 200), 200);
        due("199 of 200", s.run(1, 199), 199);
        due("none was refused", s.where(), NONE);
    }

    private static void stops() {
        says("it stops at the first that is refused, or when so many were done: how many were done;");
        SandRails s = new SandRails();
        orders(s, "rest 1;lift;rest 2");
        orders(s, "dig");
        orders(s, "again 3(rest 1;if hour<9(go);rest 7);rest 100");
        due("at the second", s.run(0, 200), 1);
        due("the third was not done", s.count(0), 1);
        due("so many were done ahead of it", s.run(0, 1), 1);
        due("it was not come to", s.where(), NONE);
        due("come to", s.run(0, 2), 1);
        due("it was refused", s.where(), 7);
        due("at the first", s.run(1, 200), 0);
        due("within turns and ifs", s.run(2, 200), 1);
        due("nothing behind it", s.count(0), 4);
        SandRails t = equipped(4);
        t.set(0, EAST, 4);
        orders(t, "while day<9(go)");
        due("to the head", t.run(0, 200), 2);
        due("refused there", t.where(), 12);
    }

    private static void where() {
        says("WHERE: the byte at which the ORDER stands that was refused (its first); NONE if none was.");
        SandRails s = new SandRails();
        due("ahead of any", s.where(), NONE);
        orders(s, "   lay   east   ");
        orders(s, "rest 1;  again 2(  if day<1(  while day<1(   back   )))");
        orders(s, "rest 1");
        orders(s, " ".repeat(396) + "fill");
        s.run(0, 1);
        due("behind blanks", s.where(), 3);
        due("a rest is done", s.run(1, 9), 1);
        due("deep in", s.where(), 45);
        s.run(2, 9);
        due("none was", s.where(), NONE);
        s.run(3, 9);
        due("at the end of the tape", s.where(), 396);
        refused("orders 4", INDEX, () -> s.run(4, 1));
        refused("most 0", ARGUMENT, () -> s.run(2, 0));
        refused("rest 0", ARGUMENT, () -> s.rest(0));
        refused("an act that is no run's", STATE, s::lift);
        due("the latest run's still", s.where(), 396);
        s.rest(9);
        due("the latest run's still", s.where(), 396);
    }

    private static void noActs() {
        says("(again, if, while are no ACTS;");
        SandRails s = new SandRails();
        orders(s, "again 2(again 2(if day<1(if hour<9(rest 1))))");
        orders(s, "if day>0(rest 1);if day>0(lift);rest 5");
        orders(s, "while hour<3(rest 60)");
        due("four rests", s.run(0, 200), 4);
        due("an if that does not hold", s.run(1, 1), 1);
        due("the rest was done", s.count(0), 9);
        due("whiles", s.run(2, 200), 3);
        due("a while that does not hold", s.run(2, 200), 0);
        due("is not refused", s.where(), NONE);
    }

    private static void withoutAnAct() {
        says("an again or while of which the ROW was through without an ACT ends;");
        SandRails s = new SandRails();
        orders(s, "while day<9(if day>8(rest 1));rest 1");
        orders(s, "again 99(again 99(again 99(again 99(again 99(if day>8(rest 1))))));rest 1");
        orders(s, "while day<9(while day<9(while day<9(while day<9(while day<9(if day>8(rest 1))))));rest 1");
        orders(s, "while day<1(if hour<3(rest 60));again 9(if hour<5(rest 60));rest 1");
        for (int i = 0; i < 3; i++) {
            due("all but the last has no act", s.run(i, 200), 1);
            due("the clock", s.count(0), i + 1);
        }
        due("3 in the while, 2 in the again, 1", s.run(3, 200), 6);
        SandRails t = new SandRails();
        orders(t, "again 3(while hour<2(rest 60);again 2(if hour<4(rest 60)))");
        due("an act of a row within is one of the row", t.run(0, 200), 4);
        due("the clock", t.count(0), 240);
        SandRails v = new SandRails();
        orders(v, "rest 1;again 99(again 99(again 99(again 99(again 99(if day>8(rest 1))))));rest 1");
        orders(v, "again 2(rest 1;again 99(again 99(again 99(again 99(if day>8(rest 1))))));rest 1");
        due("acts ahead of it are none of its row", v.run(0, 200), 2);
        due("acts ahead of it are none of its row", v.run(1, 200), 3);
        SandRails u = new SandRails();
        orders(u, "again 3(if day<1(rest 1);if day>0(rest 2))");
        due("turns with an act go on", u.run(0, 200), 3);
    }

    private static void splitAndLeaving() {
        says("a RAIL that is SPLIT, or a TRAIN that LEAVES, is an ACT that was done.)");
        SandRails s = equipped(2);
        s.rail(99, 0);
        s.rail(99, 0);
        s.set(50, EAST, 2);
        orders(s, "lay east;lay east;lay east");
        due("two are split", s.run(0, 200), 2);
        due("then none is carried", s.where(), 18);
        due("they are gone", s.look(2, 3) * 10 + s.look(3, 3), 22);
        SandRails t = equipped(2);
        t.rail(0, 9);
        t.set(50, EAST, 3);
        t.store(1, 3);
        orders(t, "again 9(go)");
        orders(t, "while wood>0(go)");
        due("three times as there is wood", t.run(0, 200), 3);
        due("then it is refused", t.where(), 8);
        due("left", t.count(12), 3);
        t.store(1, 2);
        due("a while goes on by it", t.run(1, 200), 2);
        due("left", t.count(12), 5);
        due("nothing was refused", t.where(), NONE);
    }
}
