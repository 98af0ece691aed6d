import java.util.NoSuchElementException;
import java.util.function.Supplier;

/** What the tests share: checks, texts, equipped objects, seeds of a wanted draw, and all that can be asked. */
abstract class Kit {
    static final Class<IllegalArgumentException> ARGUMENT = IllegalArgumentException.class;
    static final Class<IllegalStateException> STATE = IllegalStateException.class;
    static final Class<IndexOutOfBoundsException> INDEX = IndexOutOfBoundsException.class;
    static final Class<UnsupportedOperationException> FULL = UnsupportedOperationException.class;
    static final Class<NoSuchElementException> NO_SUCH = NoSuchElementException.class;
    static final int NONE = SandRails.NONE;
    static final int LEAST = Integer.MIN_VALUE;
    static final int MOST = Integer.MAX_VALUE;
    static final int NORTH = 0;
    static final int EAST = 1;
    static final int SOUTH = 2;
    static final int WEST = 3;

    private static Check check;
    private static String sentence = "";

    // ---- checks

    static void begin(String of) {
        check = new Check(of);
    }

    static void end() {
        check.end();
    }

    /** The words of the document that the checks behind it are about. */
    static void says(String words) {
        sentence = "\"" + words + "\": ";
    }

    static void due(String what, Object got, Object want) {
        check.due(sentence + what, got, want);
    }

    static void refused(String what, Class<? extends RuntimeException> want, Supplier<Object> call) {
        check.refused(sentence + what, want, call);
    }

    // ---- texts

    static void text(SandRails s, String text) {
        for (int at = 0; at < text.length(); at += 20) {
            int[] n = new int[5];
            for (int i = 0; i < 20; i++) {
                n[i / 4] = n[i / 4] << 8 | (at + i < text.length() ? text.charAt(at + i) : 0);
            }
            s.feed(n[0], n[1], n[2], n[3], n[4]);
        }
        s.end(text.length());
    }

    static int orders(SandRails s, String text) {
        text(s, text);
        return s.orders();
    }

    /** The text is wrong at a byte. */
    static void wrong(String text, int at) {
        SandRails s = new SandRails();
        text(s, text);
        refused("orders \"" + text + "\"", ARGUMENT, s::orders);
        due("fault of \"" + text + "\"", s.fault(), at);
        due("the tape is used up", s.end(1), false);
        refused("no orders came of it", INDEX, () -> s.run(0, 1));
    }

    static void right(String text) {
        SandRails s = new SandRails();
        text(s, text);
        Object got;
        try {
            got = s.orders();
        } catch (IllegalArgumentException e) {
            got = "wrong at " + s.fault();
        }
        due("orders \"" + text + "\"", got, 0);
        due("fault of \"" + text + "\"", s.fault(), NONE);
    }

    // ---- objects to begin with

    /** So many rails of width 0, gangs 0 lifting, 1 laying, 2 digging of strength 4 and a man each, full stores. */
    static SandRails equipped(int rails) {
        SandRails s = new SandRails();
        for (int i = 0; i < rails; i++) {
            s.rail(0, 0);
        }
        for (int i = 0; i < 3; i++) {
            s.gang(4, 1);
            s.task(i, i + 1);
        }
        s.store(0, 100);
        s.store(1, 100);
        s.store(2, 30);
        return s;
    }

    /**
     * An equipped one with a line from cell 10 eastwards, so long, behind its first night: the rails at these
     * places are buried. Water is full again and the wind has ceased.
     */
    static SandRails buriedLine(int rails, int train, int... places) {
        SandRails s = equipped(rails);
        s.store(7, train);
        for (int place : places) {
            s.ground(place, place, 2);
        }
        s.set(10, EAST, rails);
        s.store(6, 100);
        s.store(8, seedOfWay(SOUTH));
        s.rest(1440);
        s.store(6, 0);
        s.store(2, 30);
        return s;
    }

    // ---- draws, by long arithmetic, not by ints that go round

    static int seedAfter(int seed) {
        long value = 1103515245L * (seed & 0xffffffffL) + 12345L & 0xffffffffL;
        return (int) value;
    }

    static int seedAfter(int seed, int draws) {
        int after = seed;
        for (int i = 0; i < draws; i++) {
            after = seedAfter(after);
        }
        return after;
    }

    /** The draw of that number from a seed on, the first one being 1. */
    static int drawOf(int seed, int number) {
        return (int) ((seedAfter(seed, number) & 0x7fffffffL) >> 16);
    }

    /** The least seed whose first draw modulo 4 is the way. */
    static int seedOfWay(int way) {
        for (int seed = 1;; seed++) {
            if (drawOf(seed, 1) % 4 == way) {
                return seed;
            }
        }
    }

    /** The least seed whose first draw modulo 3 is the number. */
    static int seedOfThree(int number) {
        for (int seed = 1;; seed++) {
            if (drawOf(seed, 1) % 3 == number) {
                return seed;
            }
        }
    }

    /** The least seed of a wind that way with a first draw for a dune, modulo 100, that is the number. */
    static int seedOfWind(int way, int number) {
        for (int seed = 1;; seed++) {
            if (drawOf(seed, 1) % 4 == way && drawOf(seed, 2) % 100 == number) {
                return seed;
            }
        }
    }

    // ---- all that can be asked

    /** All that can be asked of an object with so many rails and gangs, in some 250 calls at most. */
    static String state(SandRails s, int rails, int gangs) {
        StringBuilder b = new StringBuilder("counts");
        for (int what = 0; what <= 12; what++) {
            b.append(' ').append(s.count(what));
        }
        b.append("; kinds ");
        for (int cell = 0; cell < 100; cell++) {
            b.append(s.kind(cell));
        }
        b.append("; rails");
        for (int i = 0; i < rails; i++) {
            for (int what = 0; what <= 4; what++) {
                b.append(' ').append(s.look(i, what));
            }
        }
        b.append("; line");
        for (int i = 0; i <= rails; i++) {
            b.append(' ').append(s.line(i, false)).append('/').append(s.line(i, true));
        }
        b.append("; where ").append(s.where()).append(", fault ").append(s.fault());
        b.append("; joints ").append(s.joints(false)).append(' ').append(s.joints(true));
        b.append("; worn ").append(s.worn()).append(", few ").append(s.few());
        return b.append(stores(s, gangs)).toString();
    }

    /** The stores that no count tells and the tasks: each is changed and put back. */
    private static String stores(SandRails s, int gangs) {
        StringBuilder b = new StringBuilder("; stores");
        for (int what : new int[] {3, 4, 5, 6, 8}) {
            int was = s.store(what, what == 3 ? 60 : 0);
            s.store(what, was);
            b.append(' ').append(was);
        }
        b.append("; tasks");
        for (int gang = 0; gang < gangs; gang++) {
            int was = s.task(gang, 0);
            s.task(gang, was);
            b.append(' ').append(was);
        }
        return b.toString();
    }
}
