import java.util.NoSuchElementException;

/** A line through a desert whose rails are taken up behind the train and laid in front of it. */
public final class SandRails {
    public static final int NONE = -1;

    /** What an act answers that cannot be; no act that was done answers below NONE. */
    private static final int REFUSED = -2;

    private static final int CELLS = 100;
    private static final int SIDE = 10;
    private static final int WAYS = 4;
    private static final int NORTH = 0;
    private static final int EAST = 1;
    private static final int SOUTH = 2;
    private static final int WEST = 3;
    /** The ways in the order of the numbers of the cells that they lead to. */
    private static final int[] WAYS_BY_NUMBER = {NORTH, WEST, EAST, SOUTH};

    private static final int SAND = 0;
    private static final int ROCK = 1;
    private static final int DUNE = 2;
    private static final int WELL = 3;

    private static final int MOST_RAILS = 16;
    private static final int MOST_WEAR = 99;
    private static final int MOST_WIDTH = 9;
    private static final int LAID = 0;
    private static final int CARRIED = 1;
    private static final int SPLIT = 2;
    private static final int LOST = 3;

    private static final int MOST_GANGS = 4;
    private static final int MOST_STRENGTH = 9;
    private static final int MOST_MEN = 30;
    private static final int LIFTING = 1;
    private static final int LAYING = 2;
    private static final int DIGGING = 3;

    private static final int PLATES = 0;
    private static final int WOOD = 1;
    private static final int WATER = 2;
    private static final int TANK = 3;
    private static final int STEAM = 4;
    private static final int LIMIT = 5;
    private static final int WIND = 6;
    private static final int LENGTH = 7;
    private static final int SEED = 8;
    private static final int[] LEAST_STORES = {0, 0, 0, 1, 0, 0, 0, 1};
    private static final int[] MOST_STORES = {9999, 9999, 60, 60, 9, 18, 100, 4};

    private static final int HOUR = 60;
    private static final int DAY = 1440;
    private static final int MEN_TO_A_WATER = 20;
    private static final int PLATES_OF_A_RAIL = 2;
    private static final int FILLING_MINUTES = 15;
    private static final int MOST_LOG = 100;
    private static final int MOST_NIGHTS = 30;

    private static final int MOST_TAPE = 400;
    private static final int MOST_ORDERS = 4;
    private static final int MOST_ACTS = 200;
    private static final int DEEPEST = 6;
    private static final int MOST_DIGITS = 4;
    private static final int MOST_NUMBER = 9999;
    private static final int MOST_TURNS = 99;

    /** Operations of orders: the acts come first, so that a comparison tells them. */
    private static final int LIFT = 0;
    private static final int LAY = 1;
    private static final int GO = 2;
    private static final int BACK = 3;
    private static final int FILL = 4;
    private static final int DIG = 5;
    private static final int REST = 6;
    private static final int AGAIN = 7;
    private static final int MARK = 8;
    private static final int TURN = 9;
    private static final int REPEAT = 10;
    private static final int UNLESS = 11;
    private static final int LESS = 12;
    private static final int MORE = 13;
    private static final int BURIED = 14;
    private static final int NOT = 15;
    private static final int AND = 16;
    private static final int OR = 17;

    /** Words that begin an order without an operation of their own. */
    private static final int IF = 18;
    private static final int WHILE = 19;

    private static final int FACT_WATER = 0;
    private static final int FACT_WOOD = 1;
    private static final int FACT_PLATES = 2;
    private static final int FACT_CARRIED = 3;
    private static final int FACT_AHEAD = 4;
    private static final int FACT_BEHIND = 5;
    private static final int FACT_HOUR = 6;
    private static final int FACT_DAY = 7;

    private final World world = new World();
    private final World kept = new World();
    private boolean isKept = false;
    private final Desert dream = new Desert();
    private final Reader reader = new Reader();
    private final Orders[] texts = new Orders[MOST_ORDERS];
    private int wrongByte = NONE;
    private final Runner runner = new Runner();
    private final Router router = new Router();

    public SandRails() {
        for (int i = 0; i < MOST_ORDERS; i++) {
            texts[i] = new Orders();
        }
    }

    // ---- the tape and the orders

    public int feed(int a, int b, int c, int d, int e) {
        Tape tape = reader.tape;
        if (!tape.hasRoom()) {
            return NONE;
        }
        tape.append(a);
        tape.append(b);
        tape.append(c);
        tape.append(d);
        tape.append(e);
        return tape.size;
    }

    public boolean end(int n) {
        return reader.tape.cut(n);
    }

    public int orders() throws IllegalArgumentException, UnsupportedOperationException {
        wrongByte = reader.read();
        reader.tape.cut(0);
        if (wrongByte != NONE) {
            throw new IllegalArgumentException("the text is wrong");
        }
        int number = world.orders;
        if (number < 0 || number >= MOST_ORDERS) {
            throw new UnsupportedOperationException("there are as many orders as there may be");
        }
        if (texts[number] != null) {
            texts[number].copyFrom(reader.out);
        }
        world.orders = number + 1;
        return number;
    }

    public int fault() {
        return wrongByte;
    }

    public int run(int orders, int most) throws IndexOutOfBoundsException, IllegalArgumentException {
        if (orders < 0 || orders >= world.orders || orders >= MOST_ORDERS) {
            throw new IndexOutOfBoundsException("no such orders");
        }
        if (most < 1 || most > MOST_ACTS) {
            throw new IllegalArgumentException("so many acts cannot be");
        }
        Orders text = texts[orders];
        return text == null ? 0 : runner.perform(world, text, most);
    }

    public int where() {
        return world.where;
    }

    // ---- the ground, the rails, the gangs and the stores

    public int ground(int from, int to, int kind) throws IndexOutOfBoundsException, IllegalArgumentException {
        if (!isCell(from) || !isCell(to)) {
            throw new IndexOutOfBoundsException("no such cell");
        }
        if (kind < SAND || kind > WELL) {
            throw new IllegalArgumentException("no such kind");
        }
        return world.shape(from, to, kind);
    }

    public int kind(int cell) throws IndexOutOfBoundsException {
        if (!isCell(cell)) {
            throw new IndexOutOfBoundsException("no such cell");
        }
        return world.desert.kindOf(cell);
    }

    public int rail(int wear, int width) throws IllegalArgumentException, UnsupportedOperationException {
        if (wear < 0 || wear > MOST_WEAR || width < -MOST_WIDTH || width > MOST_WIDTH) {
            throw new IllegalArgumentException("no such wear or width");
        }
        if (world.track.rails >= MOST_RAILS) {
            throw new UnsupportedOperationException("there are as many rails as there may be");
        }
        return world.track.addRail(wear, width);
    }

    public int gang(int strength, int men) throws IllegalArgumentException, UnsupportedOperationException {
        if (strength < 1 || strength > MOST_STRENGTH || men < 1 || men > MOST_MEN) {
            throw new IllegalArgumentException("no such strength or men");
        }
        if (world.gangs.size >= MOST_GANGS) {
            throw new UnsupportedOperationException("there are as many gangs as there may be");
        }
        return world.gangs.addGang(strength, men);
    }

    public int task(int gang, int task) throws IndexOutOfBoundsException, IllegalArgumentException {
        if (!world.gangs.isGang(gang)) {
            throw new IndexOutOfBoundsException("no such gang");
        }
        if (task < 0 || task > DIGGING) {
            throw new IllegalArgumentException("no such task");
        }
        return world.gangs.changeTask(gang, task);
    }

    public int store(int what, int n) throws NoSuchElementException, IllegalArgumentException, IllegalStateException {
        if (what < PLATES || what > SEED) {
            throw new NoSuchElementException("no such store");
        }
        if (!world.mayStore(what, n)) {
            throw new IllegalArgumentException("no such number of it");
        }
        if (what == LENGTH && world.track.isSetOut()) {
            throw new IllegalStateException("the line is set out");
        }
        return world.changeStore(what, n);
    }

    public int steal(int plates) throws IllegalArgumentException {
        if (plates < 0) {
            throw new IllegalArgumentException("fewer than no plates");
        }
        return world.takePlates(plates);
    }

    public void lose(int rail) throws IndexOutOfBoundsException, IllegalStateException {
        if (!world.track.isRail(rail)) {
            throw new IndexOutOfBoundsException("no such rail");
        }
        if (world.track.stateOf(rail) != CARRIED) {
            throw new IllegalStateException("the rail is not carried");
        }
        world.track.changeState(rail, LOST);
    }

    // ---- the acts

    public int set(int cell, int way, int many)
            throws IndexOutOfBoundsException, IllegalArgumentException, IllegalStateException {
        if (!isCell(cell) || !isWay(way)) {
            throw new IndexOutOfBoundsException("no such cell or way");
        }
        if (!world.maySetOut(cell, way, many)) {
            throw new IllegalArgumentException("so many rails cannot be set out there");
        }
        if (world.track.isSetOut()) {
            throw new IllegalStateException("the line is set out");
        }
        return world.setOut(cell, way, many);
    }

    public int lift() throws IllegalStateException {
        int rail = world.tryLift();
        if (rail == REFUSED) {
            throw new IllegalStateException("nothing can be lifted");
        }
        return rail;
    }

    public int lay(int way) throws IndexOutOfBoundsException, IllegalStateException {
        if (!isWay(way)) {
            throw new IndexOutOfBoundsException("no such way");
        }
        int rail = world.tryLay(way);
        if (rail == REFUSED) {
            throw new IllegalStateException("nothing can be laid there");
        }
        return rail;
    }

    public boolean go(boolean back) throws IllegalStateException {
        int went = world.tryGo(back);
        if (went == REFUSED) {
            throw new IllegalStateException("the train cannot go");
        }
        return went == 1;
    }

    public int fill() throws IllegalStateException {
        int came = world.tryFill();
        if (came == REFUSED) {
            throw new IllegalStateException("the train is not beside a well");
        }
        return came;
    }

    public int dig() throws IllegalStateException {
        int cell = world.tryDig();
        if (cell == REFUSED) {
            throw new IllegalStateException("nothing can be dug out");
        }
        return cell;
    }

    public int rest(int minutes) throws IllegalArgumentException {
        if (minutes < 1 || minutes > DAY) {
            throw new IllegalArgumentException("one cannot rest so long");
        }
        world.pass(minutes);
        return world.clock;
    }

    // ---- what can be asked

    public int look(int rail, int what) throws IndexOutOfBoundsException, NoSuchElementException {
        if (!world.track.isRail(rail)) {
            throw new IndexOutOfBoundsException("no such rail");
        }
        if (what < 0 || what > 4) {
            throw new NoSuchElementException("a rail has nothing of that number");
        }
        return world.tellOfRail(rail, what);
    }

    public int line(int place, boolean ofRail) {
        return ofRail ? world.track.railAt(place) : world.track.cellAt(place);
    }

    public int route(int to, int what)
            throws IndexOutOfBoundsException, IllegalArgumentException, IllegalStateException {
        if (!isCell(to)) {
            throw new IndexOutOfBoundsException("no such cell");
        }
        if (!world.isFree(to) || what < -2) {
            throw new IllegalArgumentException("no route ends there, or nothing of that number");
        }
        if (!world.track.isSetOut()) {
            throw new IllegalStateException("the line is not set out");
        }
        return router.tell(world, to, what);
    }

    public int reach(int to, int minutes)
            throws IndexOutOfBoundsException, IllegalArgumentException, IllegalStateException {
        if (!isCell(to)) {
            throw new IndexOutOfBoundsException("no such cell");
        }
        if (!world.isFree(to) || minutes < 0) {
            throw new IllegalArgumentException("no route ends there, or fewer than no minutes");
        }
        if (!world.track.isSetOut()) {
            throw new IllegalStateException("the line is not set out");
        }
        return router.cellsWithin(world, to, minutes);
    }

    public int joints(boolean first) {
        return first ? world.track.firstJointAbove(world.storeOf(LIMIT)) : world.track.widestJoint();
    }

    public int worn() {
        return world.track.mostWorn();
    }

    public boolean few() {
        return world.track.inState(LAID) + world.track.inState(CARRIED) > world.storeOf(LENGTH);
    }

    public int which(int cell, int minute) throws IndexOutOfBoundsException {
        if (!isCell(cell)) {
            throw new IndexOutOfBoundsException("no such cell");
        }
        return world.log.railOn(cell, minute);
    }

    public int ahead(int nights, boolean dunes) throws IllegalArgumentException {
        if (nights < 0 || nights > MOST_NIGHTS) {
            throw new IllegalArgumentException("so many nights cannot be looked at");
        }
        dream.copyFrom(world.desert);
        for (int i = 0; i < nights; i++) {
            dream.night(world.storeOf(WIND));
        }
        return dunes ? dream.dunes() : world.track.buriedIn(dream);
    }

    public int count(int what) {
        switch (what) {
            case 0: return world.clock;
            case 1: return world.track.size;
            case 2: return world.track.inState(CARRIED);
            case 3: return world.track.front;
            case 4: return world.storeOf(PLATES);
            case 5: return world.storeOf(WOOD);
            case 6: return world.storeOf(WATER);
            case 7: return world.dry;
            case 8: return world.track.buriedIn(world.desert);
            case 9: return world.desert.dunes();
            case 10: return world.gangs.allMen();
            case 11: return world.log.size;
            case 12: return world.timesLeft;
            default: return NONE;
        }
    }

    // ---- the image

    public void image() {
        kept.copyFrom(world);
        isKept = true;
    }

    public boolean back() {
        if (!isKept) {
            return false;
        }
        // The texts need no copy: orders are only added, so those below the kept number are as they were.
        world.copyFrom(kept);
        return true;
    }

    // ---- cells, ways and minutes

    private static boolean isCell(int cell) {
        return cell >= 0 && cell < CELLS;
    }

    private static boolean isWay(int way) {
        return way >= 0 && way < WAYS;
    }

    /** The cell next to a cell one way, NONE beyond the ground or without a cell. */
    private static int beside(int cell, int way) {
        if (cell < 0 || cell >= CELLS) {
            return NONE;
        }
        switch (way) {
            case NORTH: return cell >= SIDE ? cell - SIDE : NONE;
            case EAST: return cell % SIDE < SIDE - 1 ? cell + 1 : NONE;
            case SOUTH: return cell < CELLS - SIDE ? cell + SIDE : NONE;
            case WEST: return cell % SIDE > 0 ? cell - 1 : NONE;
            default: return NONE;
        }
    }

    private static int minutesOn(int kind) {
        return kind == ROCK ? 20 : kind == DUNE ? 40 : 12;
    }

    private static int wearOn(int kind) {
        return kind == ROCK ? 3 : kind == DUNE ? 2 : 1;
    }

    /** The minutes of a work that is told for a strength of 4, rounded up. */
    private static int workMinutes(int work, int strength) {
        return strength > 0 ? (work * 4 + strength - 1) / strength : 0;
    }

    /** The kinds of all cells, and the draws by which the wind moves the dunes. */
    private static final class Desert {
        private final int[] kinds = new int[CELLS];
        private final int[] before = new int[CELLS];
        private int seed = 1;

        int kindOf(int cell) {
            return isCell(cell) ? kinds[cell] : NONE;
        }

        void put(int cell, int kind) {
            if (isCell(cell)) {
                kinds[cell] = kind;
            }
        }

        boolean isBesideWell(int cell) {
            for (int way = 0; way < WAYS; way++) {
                if (kindOf(beside(cell, way)) == WELL) {
                    return true;
                }
            }
            return false;
        }

        int dunes() {
            int dunes = 0;
            for (int cell = 0; cell < CELLS; cell++) {
                if (kinds[cell] == DUNE) {
                    dunes++;
                }
            }
            return dunes;
        }

        int draw() {
            seed = 1103515245 * seed + 12345;
            return (seed >>> 16) & 0x7fff;
        }

        void night(int wind) {
            int way = draw() % WAYS;
            // Noted ahead of the wind: a dune that it moves on to a later cell is not drawn for again.
            System.arraycopy(kinds, 0, before, 0, CELLS);
            for (int cell = 0; cell < CELLS; cell++) {
                if (before[cell] == DUNE && draw() % 100 < wind) {
                    blow(cell, way);
                }
            }
        }

        private void blow(int cell, int way) {
            int next = beside(cell, way);
            boolean isBeyond = next < 0 || next >= CELLS;
            if (cell < 0 || cell >= CELLS || !isBeyond && kinds[next] != SAND) {
                return;
            }
            kinds[cell] = SAND;
            if (!isBeyond) {
                kinds[next] = DUNE;
            }
        }

        void copyFrom(Desert other) {
            System.arraycopy(other.kinds, 0, kinds, 0, CELLS);
            seed = other.seed;
        }
    }

    /** The rails by numbers, the line of those that are laid, and the front of the train on it. */
    private static final class Track {
        private final int[] wears = new int[MOST_RAILS];
        private final int[] widths = new int[MOST_RAILS];
        private final int[] states = new int[MOST_RAILS];
        private final int[] cells = new int[MOST_RAILS];
        private int rails = 0;
        private final int[] row = new int[MOST_RAILS];
        private final int[] rowCells = new int[MOST_RAILS];
        private int size = 0;
        private int front = NONE;

        boolean isRail(int rail) {
            return rail >= 0 && rail < rails && rail < MOST_RAILS;
        }

        boolean isSetOut() {
            return size > 0;
        }

        int wearOf(int rail) {
            return isRail(rail) ? wears[rail] : 0;
        }

        int widthOf(int rail) {
            return isRail(rail) ? widths[rail] : 0;
        }

        int stateOf(int rail) {
            return isRail(rail) ? states[rail] : NONE;
        }

        int cellOf(int rail) {
            return isRail(rail) && states[rail] == LAID ? cells[rail] : NONE;
        }

        int railAt(int place) {
            return place >= 0 && place < size && place < MOST_RAILS ? row[place] : NONE;
        }

        int cellAt(int place) {
            return place >= 0 && place < size && place < MOST_RAILS ? rowCells[place] : NONE;
        }

        int head() {
            return cellAt(size - 1);
        }

        int addRail(int wear, int width) {
            int rail = rails;
            if (rail >= 0 && rail < MOST_RAILS) {
                wears[rail] = wear;
                widths[rail] = width;
                states[rail] = CARRIED;
                rails = rail + 1;
            }
            return rail;
        }

        void changeState(int rail, int state) {
            if (isRail(rail)) {
                states[rail] = state;
            }
        }

        void age(int rail, int wear, int width) {
            if (isRail(rail)) {
                wears[rail] = wear;
                widths[rail] = Math.max(-MOST_WIDTH, Math.min(MOST_WIDTH, width));
            }
        }

        int leastCarried() {
            for (int rail = 0; rail < MOST_RAILS; rail++) {
                if (stateOf(rail) == CARRIED) {
                    return rail;
                }
            }
            return NONE;
        }

        int inState(int state) {
            int many = 0;
            for (int rail = 0; rail < MOST_RAILS; rail++) {
                if (stateOf(rail) == state) {
                    many++;
                }
            }
            return many;
        }

        boolean covers(int cell) {
            for (int place = 0; place < size; place++) {
                if (cellAt(place) == cell) {
                    return true;
                }
            }
            return false;
        }

        void append(int rail, int cell) {
            if (isRail(rail) && size >= 0 && size < MOST_RAILS) {
                states[rail] = LAID;
                cells[rail] = cell;
                row[size] = rail;
                rowCells[size] = cell;
                size++;
            }
        }

        void removeTail() {
            changeState(railAt(0), CARRIED);
            for (int place = 1; place < size && place < MOST_RAILS; place++) {
                row[place - 1] = row[place];
                rowCells[place - 1] = rowCells[place];
            }
            size--;
            front--;
        }

        boolean isBuried(int place, Desert desert) {
            return desert.kindOf(cellAt(place)) == DUNE;
        }

        int buriedIn(Desert desert) {
            int many = 0;
            for (int place = 0; place < size; place++) {
                if (isBuried(place, desert)) {
                    many++;
                }
            }
            return many;
        }

        int firstBuried(Desert desert) {
            for (int place = 0; place < size; place++) {
                if (isBuried(place, desert)) {
                    return place;
                }
            }
            return NONE;
        }

        /** By how much the widths differ of the rails at two places. */
        int jointOf(int place, int other) {
            return Math.abs(widthOf(railAt(place)) - widthOf(railAt(other)));
        }

        int widestJoint() {
            int widest = 0;
            for (int place = 0; place + 1 < size; place++) {
                widest = Math.max(widest, jointOf(place, place + 1));
            }
            return widest;
        }

        int firstJointAbove(int limit) {
            for (int place = 0; place + 1 < size; place++) {
                if (jointOf(place, place + 1) > limit) {
                    return place;
                }
            }
            return NONE;
        }

        int mostWorn() {
            int most = NONE;
            for (int rail = 0; rail < rails; rail++) {
                int state = stateOf(rail);
                boolean isThere = state == LAID || state == CARRIED;
                if (isThere && (most == NONE || wearOf(rail) > wearOf(most))) {
                    most = rail;
                }
            }
            return most;
        }

        void copyFrom(Track other) {
            System.arraycopy(other.wears, 0, wears, 0, MOST_RAILS);
            System.arraycopy(other.widths, 0, widths, 0, MOST_RAILS);
            System.arraycopy(other.states, 0, states, 0, MOST_RAILS);
            System.arraycopy(other.cells, 0, cells, 0, MOST_RAILS);
            System.arraycopy(other.row, 0, row, 0, MOST_RAILS);
            System.arraycopy(other.rowCells, 0, rowCells, 0, MOST_RAILS);
            rails = other.rails;
            size = other.size;
            front = other.front;
        }
    }

    /** The gangs by numbers. */
    private static final class Gangs {
        private final int[] strengths = new int[MOST_GANGS];
        private final int[] men = new int[MOST_GANGS];
        private final int[] tasks = new int[MOST_GANGS];
        private int size = 0;

        boolean isGang(int gang) {
            return gang >= 0 && gang < size && gang < MOST_GANGS;
        }

        int addGang(int strength, int many) {
            int gang = size;
            if (gang >= 0 && gang < MOST_GANGS) {
                strengths[gang] = strength;
                men[gang] = many;
                tasks[gang] = 0;
                size = gang + 1;
            }
            return gang;
        }

        int changeTask(int gang, int task) {
            if (!isGang(gang)) {
                return NONE;
            }
            int was = tasks[gang];
            tasks[gang] = task;
            return was;
        }

        /** The strength of all whose task it is, 0 without any. */
        int strengthAt(int task) {
            int strength = 0;
            for (int gang = 0; gang < MOST_GANGS; gang++) {
                if (gang < size && tasks[gang] == task) {
                    strength += strengths[gang];
                }
            }
            return strength;
        }

        int allMen() {
            int all = 0;
            for (int gang = 0; gang < MOST_GANGS; gang++) {
                if (gang < size) {
                    all += men[gang];
                }
            }
            return all;
        }

        void copyFrom(Gangs other) {
            System.arraycopy(other.strengths, 0, strengths, 0, MOST_GANGS);
            System.arraycopy(other.men, 0, men, 0, MOST_GANGS);
            System.arraycopy(other.tasks, 0, tasks, 0, MOST_GANGS);
            size = other.size;
        }
    }

    /** The last rails that were laid or lifted; rows in the round, the oldest at begin. */
    private static final class Log {
        private final int[] rails = new int[MOST_LOG];
        private final int[] cells = new int[MOST_LOG];
        private final int[] minutes = new int[MOST_LOG];
        /** 1 where the rail was laid, 0 where it was lifted. */
        private final int[] laid = new int[MOST_LOG];
        private int begin = 0;
        private int size = 0;
        private final boolean[] seen = new boolean[CELLS];

        void note(int rail, int cell, int minute, boolean isLaid) {
            int slot = slotOf(size);
            rails[slot] = rail;
            cells[slot] = cell;
            minutes[slot] = minute;
            laid[slot] = isLaid ? 1 : 0;
            if (size < MOST_LOG) {
                size++;
            } else {
                begin = slotOf(1);
            }
        }

        private int slotOf(int entry) {
            return Math.floorMod(begin + entry, MOST_LOG);
        }

        int railOn(int cell, int minute) {
            for (int entry = size - 1; entry >= 0; entry--) {
                int slot = slotOf(entry);
                if (cells[slot] == cell && minutes[slot] <= minute) {
                    return laid[slot] == 1 ? rails[slot] : NONE;
                }
            }
            return NONE;
        }

        /** On how many cells a rail was laid: one that it lay on twice is one cell. */
        int cellsUnder(int rail) {
            for (int cell = 0; cell < CELLS; cell++) {
                seen[cell] = false;
            }
            int many = 0;
            for (int entry = 0; entry < size; entry++) {
                int slot = slotOf(entry);
                int cell = cells[slot];
                if (laid[slot] == 1 && rails[slot] == rail && isCell(cell) && !seen[cell]) {
                    seen[cell] = true;
                    many++;
                }
            }
            return many;
        }

        void copyFrom(Log other) {
            System.arraycopy(other.rails, 0, rails, 0, MOST_LOG);
            System.arraycopy(other.cells, 0, cells, 0, MOST_LOG);
            System.arraycopy(other.minutes, 0, minutes, 0, MOST_LOG);
            System.arraycopy(other.laid, 0, laid, 0, MOST_LOG);
            begin = other.begin;
            size = other.size;
        }
    }

    /** All that the image keeps, and the acts that change it. */
    private static final class World {
        private final Desert desert = new Desert();
        private final Track track = new Track();
        private final Gangs gangs = new Gangs();
        private final Log log = new Log();
        private final int[] stores = {0, 0, 0, 30, 1, 3, 0, 2};
        private int clock = 0;
        private int dry = NONE;
        private int timesLeft = 0;
        private int orders = 0;
        private int where = NONE;

        int storeOf(int what) {
            return what >= PLATES && what <= LENGTH ? stores[what] : 0;
        }

        boolean mayStore(int what, int n) {
            if (what < PLATES || what > LENGTH) {
                return what == SEED;
            }
            int most = what == WATER ? stores[TANK] : MOST_STORES[what];
            return n >= LEAST_STORES[what] && n <= most;
        }

        int changeStore(int what, int n) {
            if (what < PLATES || what > LENGTH) {
                int was = desert.seed;
                desert.seed = n;
                return was;
            }
            int was = stores[what];
            stores[what] = n;
            stores[WATER] = Math.min(stores[WATER], stores[TANK]);
            return was;
        }

        int takePlates(int many) {
            int taken = Math.min(many, stores[PLATES]);
            stores[PLATES] -= taken;
            return taken;
        }

        int shape(int from, int to, int kind) {
            int many = 0;
            int lastY = Math.max(from / SIDE, to / SIDE);
            int lastX = Math.max(from % SIDE, to % SIDE);
            for (int y = Math.min(from / SIDE, to / SIDE); y <= lastY; y++) {
                for (int x = Math.min(from % SIDE, to % SIDE); x <= lastX; x++) {
                    int cell = SIDE * y + x;
                    if (!track.covers(cell)) {
                        desert.put(cell, kind);
                        many++;
                    }
                }
            }
            return many;
        }

        /** Whether a cell is one, no well, and not of the line. */
        boolean isFree(int cell) {
            return isCell(cell) && desert.kindOf(cell) != WELL && !track.covers(cell);
        }

        boolean maySetOut(int cell, int way, int many) {
            if (many < stores[LENGTH] || many > track.inState(CARRIED)) {
                return false;
            }
            int next = cell;
            for (int i = 0; i < many; i++) {
                if (!isCell(next) || desert.kindOf(next) == WELL) {
                    return false;
                }
                next = beside(next, way);
            }
            return true;
        }

        int setOut(int cell, int way, int many) {
            int next = cell;
            for (int i = 0; i < many; i++) {
                putRail(track.leastCarried(), next, clock);
                next = beside(next, way);
            }
            track.front = stores[LENGTH] - 1;
            return track.head();
        }

        private void putRail(int rail, int cell, int minute) {
            if (desert.kindOf(cell) == DUNE) {
                desert.put(cell, SAND);
            }
            track.append(rail, cell);
            log.note(rail, cell, minute, true);
        }

        /** The place of the train's last cell. */
        private int lastOfTrain() {
            return track.front - stores[LENGTH] + 1;
        }

        int tryAct(int act, int number) {
            switch (act) {
                case LIFT: return tryLift();
                case LAY: return tryLay(number);
                case GO: return tryGo(false);
                case BACK: return tryGo(true);
                case FILL: return tryFill();
                case DIG: return tryDig();
                default:
                    pass(number);
                    return 0;
            }
        }

        int tryLift() {
            int strength = gangs.strengthAt(LIFTING);
            if (!track.isSetOut() || lastOfTrain() <= 0 || track.isBuried(0, desert) || strength == 0) {
                return REFUSED;
            }
            int rail = track.railAt(0);
            int cell = track.cellAt(0);
            int minutes = workMinutes(8, strength);
            track.removeTail();
            stores[PLATES] = Math.min(MOST_STORES[PLATES], stores[PLATES] + PLATES_OF_A_RAIL);
            log.note(rail, cell, clock + minutes, false);
            pass(minutes);
            return rail;
        }

        int tryLay(int way) {
            int cell = beside(track.head(), way);
            int rail = track.leastCarried();
            int strength = gangs.strengthAt(LAYING);
            if (!isFree(cell) || rail == NONE || stores[PLATES] < PLATES_OF_A_RAIL || strength == 0) {
                return REFUSED;
            }
            int kind = desert.kindOf(cell);
            int minutes = workMinutes(minutesOn(kind) + track.size, strength);
            int wear = track.wearOf(rail) + wearOn(kind);
            stores[PLATES] -= PLATES_OF_A_RAIL;
            if (wear > MOST_WEAR) {
                track.changeState(rail, SPLIT);
                pass(minutes);
                return NONE;
            }
            track.age(rail, wear, track.widthOf(rail) + desert.draw() % 3 - 1);
            putRail(rail, cell, clock + minutes);
            pass(minutes);
            return rail;
        }

        /** 1 if the train went, 0 if it leaves. */
        int tryGo(boolean isBack) {
            int from = isBack ? lastOfTrain() : track.front;
            int to = isBack ? from - 1 : from + 1;
            if (!track.isSetOut() || track.railAt(to) == NONE || isStuck(to)) {
                return REFUSED;
            }
            if (stores[WATER] < stores[STEAM] || stores[WOOD] < 1) {
                return REFUSED;
            }
            stores[WATER] -= stores[STEAM];
            stores[WOOD]--;
            if (track.jointOf(from, to) > stores[LIMIT]) {
                timesLeft++;
                pass(60);
                return 0;
            }
            track.front += isBack ? -1 : 1;
            pass(2);
            return 1;
        }

        /** Whether the rail at a place is buried, or one under the train. */
        private boolean isStuck(int to) {
            if (track.isBuried(to, desert)) {
                return true;
            }
            for (int place = lastOfTrain(); place <= track.front; place++) {
                if (track.isBuried(place, desert)) {
                    return true;
                }
            }
            return false;
        }

        int tryFill() {
            boolean isBesideWell = false;
            for (int place = lastOfTrain(); place <= track.front; place++) {
                isBesideWell = isBesideWell || desert.isBesideWell(track.cellAt(place));
            }
            if (!track.isSetOut() || !isBesideWell) {
                return REFUSED;
            }
            int came = stores[TANK] - stores[WATER];
            stores[WATER] = stores[TANK];
            pass(FILLING_MINUTES);
            return came;
        }

        int tryDig() {
            int strength = gangs.strengthAt(DIGGING);
            int place = track.firstBuried(desert);
            if (place == NONE || strength == 0) {
                return REFUSED;
            }
            int cell = track.cellAt(place);
            desert.put(cell, SAND);
            pass(workMinutes(25, strength));
            return cell;
        }

        void pass(int minutes) {
            int from = clock;
            int to = clock + minutes;
            clock = to;
            int thirst = (gangs.allMen() + MEN_TO_A_WATER - 1) / MEN_TO_A_WATER;
            for (int hour = from / HOUR + 1; hour <= to / HOUR; hour++) {
                if (stores[WATER] < thirst && dry == NONE) {
                    dry = hour * HOUR;
                }
                stores[WATER] = Math.max(0, stores[WATER] - thirst);
            }
            for (int day = from / DAY + 1; day <= to / DAY; day++) {
                desert.night(stores[WIND]);
            }
        }

        int factOf(int fact) {
            switch (fact) {
                case FACT_WATER: return stores[WATER];
                case FACT_WOOD: return stores[WOOD];
                case FACT_PLATES: return stores[PLATES];
                case FACT_CARRIED: return track.inState(CARRIED);
                case FACT_AHEAD: return track.isSetOut() ? track.size - 1 - track.front : 0;
                case FACT_BEHIND: return track.isSetOut() ? lastOfTrain() : 0;
                case FACT_HOUR: return clock / HOUR % 24;
                case FACT_DAY: return clock / DAY;
                default: return 0;
            }
        }

        int tellOfRail(int rail, int what) {
            switch (what) {
                case 0: return track.wearOf(rail);
                case 1: return track.widthOf(rail);
                case 2: return track.cellOf(rail);
                case 3: return track.stateOf(rail);
                default: return log.cellsUnder(rail);
            }
        }

        void copyFrom(World other) {
            desert.copyFrom(other.desert);
            track.copyFrom(other.track);
            gangs.copyFrom(other.gangs);
            log.copyFrom(other.log);
            System.arraycopy(other.stores, 0, stores, 0, stores.length);
            clock = other.clock;
            dry = other.dry;
            timesLeft = other.timesLeft;
            orders = other.orders;
            where = other.where;
        }
    }

    /** The bytes that come ahead of a text's reading. */
    private static final class Tape {
        private static final int FEED = 20;
        private final int[] bytes = new int[MOST_TAPE];
        private int size = 0;

        boolean hasRoom() {
            return size + FEED <= MOST_TAPE;
        }

        void append(int number) {
            for (int shift = 24; shift >= 0; shift -= 8) {
                if (size >= 0 && size < MOST_TAPE) {
                    bytes[size] = (number >>> shift) & 255;
                    size++;
                }
            }
        }

        boolean cut(int n) {
            if (n < 0 || n > size) {
                return false;
            }
            size = n;
            return true;
        }

        int byteAt(int place) {
            return place >= 0 && place < size && place < MOST_TAPE ? bytes[place] : NONE;
        }
    }

    /**
     * A text as operations one behind another, each with two numbers. Acts: WAY or minutes, and the byte of
     * the order. AGAIN, MARK: turns or 0, and the level. TURN, REPEAT: where to go back to, and the level.
     * UNLESS: where to go on. LESS, MORE: the number, and the fact.
     */
    private static final class Orders {
        /** No operation comes of fewer than two bytes of the text. */
        private static final int MOST = MOST_TAPE / 2;
        private final int[] operations = new int[MOST];
        private final int[] firsts = new int[MOST];
        private final int[] seconds = new int[MOST];
        private int size = 0;

        boolean has(int place) {
            return place >= 0 && place < size && place < MOST;
        }

        int operationAt(int place) {
            return has(place) ? operations[place] : NONE;
        }

        int firstAt(int place) {
            return has(place) ? firsts[place] : 0;
        }

        int secondAt(int place) {
            return has(place) ? seconds[place] : 0;
        }

        void add(int operation, int first, int second) {
            if (size >= 0 && size < MOST) {
                operations[size] = operation;
                firsts[size] = first;
                seconds[size] = second;
                size++;
            }
        }

        /** The operation at a place leads to the one that comes next. */
        void leadHere(int place) {
            if (has(place)) {
                firsts[place] = size;
            }
        }

        void copyFrom(Orders other) {
            System.arraycopy(other.operations, 0, operations, 0, MOST);
            System.arraycopy(other.firsts, 0, firsts, 0, MOST);
            System.arraycopy(other.seconds, 0, seconds, 0, MOST);
            size = other.size;
        }
    }

    /** Reads a text by its rules, a thing at a time, into operations. */
    private static final class Reader {
        private static final int END = 0;
        private static final int WORD = 1;
        private static final int NUMBER = 2;
        private static final int SIGN = 3;

        private final Orders out = new Orders();
        private final Tape tape = new Tape();
        private int type = END;
        private int begin = 0;
        private int stop = 0;
        private int wrong = NONE;

        /** The first wrong byte, NONE without one. */
        int read() {
            out.size = 0;
            stop = 0;
            wrong = NONE;
            advance();
            if (readRow(0) && type != END) {
                isRefused();
            }
            return wrong;
        }

        private boolean isRefused() {
            wrong = begin;
            return false;
        }

        /** Goes on to the next thing of the text. */
        private void advance() {
            begin = stop;
            for (int i = 0; i < MOST_TAPE && tape.byteAt(begin) == ' '; i++) {
                begin++;
            }
            type = typeOf(tape.byteAt(begin));
            stop = type == END ? begin : begin + 1;
            boolean isLong = type == WORD || type == NUMBER;
            for (int i = 0; i < MOST_TAPE && isLong && typeOf(tape.byteAt(stop)) == type; i++) {
                stop++;
            }
        }

        private static int typeOf(int sign) {
            if (sign == NONE) {
                return END;
            }
            if (sign >= 'a' && sign <= 'z') {
                return WORD;
            }
            return sign >= '0' && sign <= '9' ? NUMBER : SIGN;
        }

        private boolean isSign(int sign) {
            return type == SIGN && tape.byteAt(begin) == sign;
        }

        private boolean isWord(String word) {
            if (type != WORD || stop - begin != word.length()) {
                return false;
            }
            for (int i = 0; i < word.length(); i++) {
                if (tape.byteAt(begin + i) != word.charAt(i)) {
                    return false;
                }
            }
            return true;
        }

        private boolean takeSign(int sign) {
            if (!isSign(sign)) {
                return isRefused();
            }
            advance();
            return true;
        }

        /** A number within its bounds, which are not below 0; NONE if it is wrong. */
        private int takeNumber(int least, int most) {
            int value = NONE;
            if (type == NUMBER && stop - begin <= MOST_DIGITS) {
                value = 0;
                for (int place = begin; place < stop; place++) {
                    value = value * 10 + tape.byteAt(place) - '0';
                }
            }
            if (value < least || value > most) {
                isRefused();
                return NONE;
            }
            advance();
            return value;
        }

        private boolean readRow(int depth) {
            for (int i = 0; i < MOST_TAPE; i++) {
                if (!readOrder(depth)) {
                    return false;
                }
                if (!isSign(';')) {
                    return true;
                }
                advance();
            }
            return true;
        }

        private boolean readOrder(int depth) {
            int order = orderWord();
            int place = begin;
            if (order == NONE) {
                return isRefused();
            }
            advance();
            switch (order) {
                case LAY: return readWay(place);
                case REST: return readRest(place);
                case AGAIN: return readAgain(depth);
                case IF: return readIf(depth);
                case WHILE: return readWhile(depth);
                default:
                    out.add(order, 0, place);
                    return true;
            }
        }

        private int orderWord() {
            if (isWord("lift")) {
                return LIFT;
            }
            if (isWord("lay")) {
                return LAY;
            }
            if (isWord("go")) {
                return GO;
            }
            if (isWord("back")) {
                return BACK;
            }
            if (isWord("fill")) {
                return FILL;
            }
            if (isWord("dig")) {
                return DIG;
            }
            if (isWord("rest")) {
                return REST;
            }
            if (isWord("again")) {
                return AGAIN;
            }
            if (isWord("if")) {
                return IF;
            }
            return isWord("while") ? WHILE : NONE;
        }

        private boolean readWay(int place) {
            int way = wayWord();
            if (way == NONE) {
                return isRefused();
            }
            advance();
            out.add(LAY, way, place);
            return true;
        }

        private int wayWord() {
            if (isWord("north")) {
                return NORTH;
            }
            if (isWord("east")) {
                return EAST;
            }
            if (isWord("south")) {
                return SOUTH;
            }
            return isWord("west") ? WEST : NONE;
        }

        private boolean readRest(int place) {
            int minutes = takeNumber(1, DAY);
            if (minutes == NONE) {
                return false;
            }
            out.add(REST, minutes, place);
            return true;
        }

        private boolean readAgain(int depth) {
            int turns = takeNumber(1, MOST_TURNS);
            if (turns == NONE) {
                return false;
            }
            out.add(AGAIN, turns, depth);
            int first = out.size;
            out.add(MARK, 0, depth);
            if (!readBlock(depth)) {
                return false;
            }
            out.add(TURN, first, depth);
            return true;
        }

        private boolean readIf(int depth) {
            if (!readEither(depth)) {
                return false;
            }
            int unless = out.size;
            out.add(UNLESS, 0, 0);
            if (!readBlock(depth)) {
                return false;
            }
            out.leadHere(unless);
            return true;
        }

        private boolean readWhile(int depth) {
            int first = out.size;
            out.add(MARK, 0, depth);
            if (!readEither(depth)) {
                return false;
            }
            int unless = out.size;
            out.add(UNLESS, 0, 0);
            if (!readBlock(depth)) {
                return false;
            }
            out.add(REPEAT, first, depth);
            out.leadHere(unless);
            return true;
        }

        private boolean readBlock(int depth) {
            if (!isSign('(') || depth >= DEEPEST) {
                return isRefused();
            }
            advance();
            return readRow(depth + 1) && takeSign(')');
        }

        private boolean readEither(int depth) {
            if (!readBoth(depth)) {
                return false;
            }
            for (int i = 0; i < MOST_TAPE && isWord("or"); i++) {
                advance();
                if (!readBoth(depth)) {
                    return false;
                }
                out.add(OR, 0, 0);
            }
            return true;
        }

        private boolean readBoth(int depth) {
            if (!readAtom(depth)) {
                return false;
            }
            for (int i = 0; i < MOST_TAPE && isWord("and"); i++) {
                advance();
                if (!readAtom(depth)) {
                    return false;
                }
                out.add(AND, 0, 0);
            }
            return true;
        }

        private boolean readAtom(int depth) {
            boolean isNot = isWord("not");
            if (isNot || isSign('[')) {
                if (depth >= DEEPEST) {
                    return isRefused();
                }
                advance();
                return isNot ? readDenied(depth + 1) : readEither(depth + 1) && takeSign(']');
            }
            if (isWord("buried")) {
                advance();
                out.add(BURIED, 0, 0);
                return true;
            }
            return readFact();
        }

        private boolean readDenied(int depth) {
            if (!readAtom(depth)) {
                return false;
            }
            out.add(NOT, 0, 0);
            return true;
        }

        private boolean readFact() {
            int fact = factWord();
            if (fact == NONE) {
                return isRefused();
            }
            advance();
            boolean isLess = isSign('<');
            if (!isLess && !isSign('>')) {
                return isRefused();
            }
            advance();
            int number = takeNumber(0, MOST_NUMBER);
            if (number == NONE) {
                return false;
            }
            out.add(isLess ? LESS : MORE, number, fact);
            return true;
        }

        private int factWord() {
            if (isWord("water")) {
                return FACT_WATER;
            }
            if (isWord("wood")) {
                return FACT_WOOD;
            }
            if (isWord("plates")) {
                return FACT_PLATES;
            }
            if (isWord("carried")) {
                return FACT_CARRIED;
            }
            if (isWord("ahead")) {
                return FACT_AHEAD;
            }
            if (isWord("behind")) {
                return FACT_BEHIND;
            }
            if (isWord("hour")) {
                return FACT_HOUR;
            }
            return isWord("day") ? FACT_DAY : NONE;
        }
    }

    /** Carries orders out. */
    private static final class Runner {
        /** Far above what 200 acts can need: between two of them each level is gone through twice at most. */
        private static final int MOST_STEPS = 1000000;
        private final int[] turns = new int[DEEPEST];
        private final int[] marks = new int[DEEPEST];
        private int done = 0;
        private int next = 0;
        /** What the conditions' parts were so far, the latest one in the lowest bit. */
        private int truths = 0;

        int perform(World world, Orders orders, int most) {
            done = 0;
            next = 0;
            truths = 0;
            world.where = NONE;
            for (int step = 0; step < MOST_STEPS && done < most && orders.has(next); step++) {
                int operation = orders.operationAt(next);
                int first = orders.firstAt(next);
                int second = orders.secondAt(next);
                next++;
                if (operation > UNLESS) {
                    judge(world, operation, first, second);
                } else if (operation > REST) {
                    turn(operation, first, second);
                } else if (world.tryAct(operation, first) == REFUSED) {
                    world.where = second;
                    return done;
                } else {
                    done++;
                }
            }
            return done;
        }

        private void turn(int operation, int first, int level) {
            if (level < 0 || level >= DEEPEST) {
                return;
            }
            switch (operation) {
                case AGAIN:
                    turns[level] = first;
                    break;
                case MARK:
                    marks[level] = done;
                    break;
                case TURN:
                    turns[level]--;
                    if (turns[level] > 0 && done > marks[level]) {
                        next = first;
                    }
                    break;
                case REPEAT:
                    if (done > marks[level]) {
                        next = first;
                    }
                    break;
                default:
                    if ((truths & 1) == 0) {
                        next = first;
                    }
                    truths >>>= 1;
                    break;
            }
        }

        private void judge(World world, int operation, int number, int fact) {
            switch (operation) {
                case LESS:
                    push(world.factOf(fact) < number);
                    break;
                case MORE:
                    push(world.factOf(fact) > number);
                    break;
                case BURIED:
                    push(world.track.firstBuried(world.desert) != NONE);
                    break;
                case NOT:
                    truths ^= 1;
                    break;
                case AND:
                    truths = (truths >>> 1) & (truths | ~1);
                    break;
                default:
                    truths = (truths >>> 1) | (truths & 1);
                    break;
            }
        }

        private void push(boolean isTrue) {
            truths = truths << 1 | (isTrue ? 1 : 0);
        }
    }

    /**
     * Routes from the head. What is LEFT is held as one number, minutes times STEP_PART and steps, so that
     * the least of these is the least by minutes and by these the fewest steps.
     */
    private static final class Router {
        private static final int MOST_TANK = 60;
        private static final long STEP_PART = 1L << 20;
        private static final long NO_WAY = 1L << 62;
        /** A taking at a cell where one has taken already is never of use. */
        private static final int MOST_ROUNDS = CELLS + 2;

        /** What is LEFT by water and cell, for cells that can be stepped to. */
        private final long[] left = new long[MOST_TANK * CELLS];
        /** The minutes of a step to a cell; 0 where none may go. */
        private final int[] costs = new int[CELLS];
        private final boolean[] isWet = new boolean[CELLS];
        /** What is LEFT if one takes water at the cell first. */
        private final long[] taking = new long[CELLS];
        private int tank = 1;
        private int goal = NONE;
        /** With more water than this nothing is better. */
        private int enough = 0;
        private int cell = 0;
        private int water = 0;

        int tell(World world, int to, int what) {
            solve(world, to);
            long all = leftFrom(cell, water);
            if (all == NO_WAY) {
                return NONE;
            }
            if (what == NONE) {
                return minutesOf(all);
            }
            int steps = (int) (all % STEP_PART);
            if (what < NONE) {
                return steps;
            }
            if (what >= steps) {
                return NONE;
            }
            for (int i = 0; i <= what; i++) {
                step();
            }
            return cell;
        }

        int cellsWithin(World world, int to, int minutes) {
            solve(world, to);
            long all = leftFrom(cell, water);
            if (all == NO_WAY) {
                return NONE;
            }
            int steps = (int) (all % STEP_PART);
            for (int i = 0; i < steps; i++) {
                step();
                if (minutesOf(all) - minutesOf(leftFrom(cell, water)) > minutes) {
                    return i;
                }
            }
            return steps;
        }

        private static int minutesOf(long value) {
            return (int) (value / STEP_PART);
        }

        private void solve(World world, int to) {
            cell = world.track.head();
            water = world.storeOf(WATER);
            if (isAsBefore(world, to)) {
                return;
            }
            for (int i = 0; i < CELLS; i++) {
                taking[i] = NO_WAY;
            }
            for (int round = 0; round < MOST_ROUNDS; round++) {
                spread();
                if (!takeAnew()) {
                    return;
                }
            }
        }

        /** Sees to the goal, the tank and the ground; whether all that LEFT hangs on is as it was. */
        private boolean isAsBefore(World world, int to) {
            int most = Math.max(1, Math.min(MOST_TANK, world.storeOf(TANK)));
            boolean isSame = goal == to && tank == most;
            goal = to;
            tank = most;
            for (int i = 0; i < CELLS; i++) {
                int cost = world.isFree(i) ? minutesOn(world.desert.kindOf(i)) : 0;
                boolean isBesideWell = world.desert.isBesideWell(i);
                isSame = isSame && costs[i] == cost && isWet[i] == isBesideWell;
                costs[i] = cost;
                isWet[i] = isBesideWell;
            }
            return isSame;
        }

        /** What is LEFT, by the water from none on, with the takings as they are known. */
        private void spread() {
            enough = 0;
            spreadAt(0);
            for (int amount = 1; amount < tank && spreadAt(amount); amount++) {
                enough = amount;
            }
        }

        /** Whether it is anywhere another one than with a water less. */
        private boolean spreadAt(int amount) {
            boolean isOther = false;
            for (int i = 0; i < CELLS; i++) {
                long value = NO_WAY;
                if (i == goal) {
                    value = 0;
                } else if (costs[i] > 0) {
                    value = Math.min(taking[i], bestStep(i, amount - 1, 0));
                }
                int place = amount * CELLS + i;
                if (place >= 0 && place < left.length) {
                    left[place] = value;
                    isOther = isOther || value != leftWith(i, amount - 1);
                }
            }
            return isOther;
        }

        /** Whether a taking is known now that is better than the one that was. */
        private boolean takeAnew() {
            boolean isBetter = false;
            for (int i = 0; i < CELLS; i++) {
                if (isWet[i] && costs[i] > 0) {
                    long value = bestStep(i, tank - 1, FILLING_MINUTES);
                    isBetter = isBetter || value < taking[i];
                    taking[i] = value;
                }
            }
            return isBetter;
        }

        /** What is known to be LEFT at a cell that can be stepped to. */
        private long leftWith(int at, int amount) {
            int place = (amount < enough ? amount : enough) * CELLS + at;
            return amount >= 0 && at >= 0 && at < CELLS && place < left.length ? left[place] : NO_WAY;
        }

        /** What is LEFT behind a step to a cell, with the step; so much water is there behind it. */
        private long stepTo(int to, int amount, int extra) {
            if (!isCell(to) || costs[to] == 0) {
                return NO_WAY;
            }
            long behind = leftWith(to, amount);
            return behind == NO_WAY ? NO_WAY : behind + (costs[to] + extra) * STEP_PART + 1;
        }

        private long bestStep(int from, int amount, int extra) {
            long best = NO_WAY;
            for (int way = 0; way < WAYS && amount >= 0; way++) {
                best = Math.min(best, stepTo(beside(from, way), amount, extra));
            }
            return best;
        }

        private long leftFrom(int from, int amount) {
            if (from == goal) {
                return 0;
            }
            long plain = bestStep(from, amount - 1, 0);
            boolean isTaking = isCell(from) && isWet[from];
            return isTaking ? Math.min(plain, bestStep(from, tank - 1, FILLING_MINUTES)) : plain;
        }

        /** Goes on by one cell of the route. */
        private void step() {
            long value = leftFrom(cell, water);
            int amount = water - 1;
            int next = stepThatKeeps(value, amount, 0);
            if (next == NONE) {
                amount = tank - 1;
                next = stepThatKeeps(value, amount, FILLING_MINUTES);
            }
            if (next != NONE) {
                cell = next;
                water = amount;
            }
        }

        private int stepThatKeeps(long value, int amount, int extra) {
            for (int i = 0; i < WAYS; i++) {
                int next = beside(cell, WAYS_BY_NUMBER[i]);
                long behind = stepTo(next, amount, extra);
                if (behind != NO_WAY && behind == value) {
                    return next;
                }
            }
            return NONE;
        }
    }
}
