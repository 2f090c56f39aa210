import java.util.Arrays;

/**
 * A floor of belts, splitters, tunnels, sources, machines and sinks, stepped exactly.
 * The words in capitals are those of the document (../shared/DOC.md).
 */
public final class FloorTurn {
    public static final int NONE = -1;

    private static final int NOBODY = -1;
    private static final int OTHER = -2;
    private static final int NOTHING = -3;
    private static final int BELOW = -4;
    private static final int BEYOND = -5;
    private static final int WRONG = -6;
    private static final int ROOM = -7;

    private static final int WIDE = 12;
    private static final int CELLS = 144;
    private static final int ITEMS = 20;
    private static final int RECIPES = 8;
    private static final int SHELVES = 8;
    private static final int MOST_ELEMENTS = 100;
    private static final int MOST_TICKS = 20000;
    private static final int MOST_TICKS_A_CALL = 200;
    private static final int MOST_LIMIT = 400;
    private static final int MOST_WISHED = 60;
    private static final int REACH = 5;
    private static final int LAST_SIDE = 3;

    private static final int BARE = 0;
    private static final int BELT = 1;
    private static final int TUNNEL = 2;
    private static final int EXIT = 3;
    private static final int SPLITTER = 4;
    private static final int SOURCE = 5;
    private static final int MACHINE = 6;
    private static final int SINK = 7;

    private static final int SORTS = 4;
    private static final int ELEMENTS_A_PART = 5;

    private final int[] refusals;
    private final Book book;
    private final Floor floor;
    private final Shelf[] shelves;
    private final Finder finder;
    private final Router router;
    private final Planner planner;

    public FloorTurn() {
        refusals = new int[8];
        book = new Book();
        floor = new Floor(book);
        shelves = new Shelf[SHELVES];
        for (int s = 0; s < SHELVES; s++) {
            shelves[s] = new Shelf();
        }
        finder = new Finder(book);
        router = new Router();
        planner = new Planner();
    }

    // ---- recipes and parts

    public int recipe(int item, int makes, int ticks, int need1, int n1, int need2, int n2, int power) {
        boolean numbersFit = isItem(item) && within(makes, 1, 4) && within(ticks, 1, 60)
                && within(power, 0, 100) && isItem(need1) && within(n1, 1, 4)
                && (need2 == 0 || (isItem(need2) && within(n2, 1, 4)));
        if (!numbersFit || need1 == item || need2 == item || need1 == need2) {
            return refuse(WRONG);
        }
        if (book.makerOf(item) != NONE) {
            return refuse(WRONG);
        }
        if (book.count >= RECIPES) {
            return refuse(ROOM);
        }
        Recipe fresh = new Recipe(item, makes, ticks, power);
        fresh.wants(need1, n1, need2, need2 == 0 ? 0 : n2);
        return book.enter(fresh);
    }

    public int build(int cell, int kind, int side, int arg, int period) {
        int refusal = refusalToBuild(cell, kind, side, arg, period);
        if (refusal != 0) {
            return refuse(refusal);
        }
        floor.place(cell, kind, side, arg, period);
        return 1;
    }

    public int builds(int s) {
        int refusal = refusalOfRow(s);
        if (refusal != 0) {
            return refuse(refusal);
        }
        Row plan = shelves[s].row;
        if (plan.size % ELEMENTS_A_PART != 0) {
            return refuse(WRONG);
        }
        int parts = plan.size / ELEMENTS_A_PART;
        for (int k = 0; k < parts; k++) {
            if (!canBuildFrom(plan, k)) {
                return refuse(WRONG);
            }
        }
        for (int k = 0; k < parts; k++) {
            int at = ELEMENTS_A_PART * k;
            floor.place(plan.asInt(at), plan.asInt(at + 1), plan.asInt(at + 2), plan.asInt(at + 3), plan.asInt(at + 4));
        }
        return parts;
    }

    public int raze(int cell) {
        if (!isCell(cell)) {
            return refuse(NOBODY);
        }
        int had = floor.parts[cell].kind;
        floor.parts[cell].become(BARE, 0, 0, 0, null);
        return had;
    }

    // ---- shelves

    public int row(int s, int sort, int n) {
        if (!isShelf(s)) {
            return refuse(NOBODY);
        }
        if (n < 0) {
            return refuse(BELOW);
        }
        if (!within(sort, 0, SORTS - 1)) {
            return refuse(WRONG);
        }
        if (n > MOST_ELEMENTS) {
            return refuse(ROOM);
        }
        shelves[s].holdRow(sort, n);
        return 1;
    }

    public int set(int s, int i, long v) {
        int refusal = refusalOfRow(s);
        if (refusal != 0) {
            return refuse(refusal);
        }
        Row row = shelves[s].row;
        if (!row.has(i, 1)) {
            return refuse(BEYOND);
        }
        row.keep(i, v);
        return 1;
    }

    public int copy(int p, int q, int i, int j, int n) {
        if (!isShelf(p) || !isShelf(q)) {
            return refuse(NOBODY);
        }
        Shelf giver = shelves[p];
        Shelf taker = shelves[q];
        if (giver.state == Shelf.PIECE || taker.state == Shelf.PIECE) {
            return refuse(OTHER);
        }
        boolean bothHold = giver.state == Shelf.ROW && taker.state == Shelf.ROW;
        if (bothHold && giver.row.sort != taker.row.sort) {
            return refuse(OTHER);
        }
        if (!bothHold) {
            return refuse(NOTHING);
        }
        if (n < 0) {
            return refuse(BELOW);
        }
        if (!giver.row.has(i, n) || !taker.row.has(j, n)) {
            return refuse(BEYOND);
        }
        System.arraycopy(giver.row.elements, i, taker.row.elements, j, n);
        return 1;
    }

    public long element(int s, int i) {
        if (!isShelf(s) || shelves[s].state != Shelf.ROW || !shelves[s].row.has(i, 1)) {
            return 0;
        }
        return shelves[s].row.elements[i];
    }

    public int clear(int s) {
        if (!isShelf(s)) {
            return refuse(NOBODY);
        }
        int held = shelves[s].state == Shelf.EMPTY ? 0 : 1;
        shelves[s].state = Shelf.EMPTY;
        return held;
    }

    public int holds(int s) {
        if (!isShelf(s) || shelves[s].state == Shelf.EMPTY) {
            return NONE;
        }
        return shelves[s].state == Shelf.PIECE ? 0 : 100 + shelves[s].row.sort;
    }

    public int take(int s, int cell, int w, int h) {
        if (!isShelf(s) || !isCell(cell)) {
            return refuse(NOBODY);
        }
        if (w < 0 || h < 0) {
            return refuse(BELOW);
        }
        if (w == 0 || h == 0 || !isOnFloor(cell, w, h)) {
            return refuse(WRONG);
        }
        shelves[s].state = Shelf.PIECE;
        shelves[s].piece.cut(floor, cell, w, h);
        return shelves[s].piece.count;
    }

    public int put(int s, int cell, int turns) {
        if (!isShelf(s) || !isCell(cell)) {
            return refuse(NOBODY);
        }
        int refusal = refusalOfPiece(s);
        if (refusal != 0) {
            return refuse(refusal);
        }
        Piece piece = shelves[s].piece;
        if (!within(turns, 0, 3) || !isOnFloor(cell, piece.widthAt(turns), piece.heightAt(turns))) {
            return refuse(WRONG);
        }
        if (!piece.fits(floor, cell, turns)) {
            return refuse(WRONG);
        }
        piece.paste(floor, cell, turns);
        return piece.count;
    }

    public int partsIn(int s) {
        int refusal = refusalOfPiece(s);
        return refusal != 0 ? refuse(refusal) : shelves[s].piece.count;
    }

    // ---- ticks and turns

    public int tick(int n) {
        if (!within(n, 1, MOST_TICKS_A_CALL)) {
            return refuse(WRONG);
        }
        if (floor.ticks + n > MOST_TICKS) {
            return refuse(ROOM);
        }
        int came = 0;
        for (int k = 0; k < n; k++) {
            came += floor.step();
        }
        return came;
    }

    public int turn(int limit) {
        if (!within(limit, 1, MOST_LIMIT)) {
            return refuse(WRONG);
        }
        if (!finder.seek(floor, limit)) {
            return 0;
        }
        finder.watchTurn();
        return finder.length;
    }

    public int turned(int what) {
        return finder.tellTurn(what);
    }

    public int cellTurn(int cell, int what) {
        return isCell(cell) ? finder.tellCell(cell, what) : NONE;
    }

    public int part(int cell, int what) {
        return isCell(cell) ? floor.parts[cell].tell(what) : NONE;
    }

    public int sunk(int item) {
        return isItem(item) ? floor.sunk[item] : 0;
    }

    // ---- wishes

    public int wish(int item, int p, int q) {
        if (!isItem(item) || book.makerOf(item) == NONE) {
            return refuse(WRONG);
        }
        if (!within(p, 1, MOST_WISHED) || !within(q, 1, MOST_WISHED)) {
            return refuse(WRONG);
        }
        int all = planner.plan(book, item, p, q);
        return all == NONE ? refuse(WRONG) : all;
    }

    public int machines(int recipe) {
        return within(recipe, 0, RECIPES - 1) ? planner.machines[recipe] : 0;
    }

    public long rate(int item, boolean lower) {
        if (!isItem(item)) {
            return lower ? 1 : 0;
        }
        return planner.rateOf(item, lower);
    }

    // ---- ways

    public int path(int from, int to) {
        return router.fewest(floor, from, to);
    }

    public int lay(int from, int to) {
        if (!isCell(from) || !isCell(to)) {
            return refuse(NOBODY);
        }
        int belts = router.fewest(floor, from, to);
        if (belts == NONE) {
            return refuse(WRONG);
        }
        router.buildWay(floor, from, to, belts);
        return belts;
    }

    public int status(int what) {
        switch (what) {
            case 0: return floor.countParts();
            case 1: return book.count;
            case 2: return floor.ticks;
            case 3: return floor.countItems();
            case 4: return floor.countSunk();
            default: return within(what, 11, 17) ? refusals[what - 10] : NONE;
        }
    }

    // ---- refusals

    private int refuse(int number) {
        if (within(number, ROOM, NOBODY)) {
            refusals[-number]++;
        }
        return number;
    }

    private int refusalOfRow(int s) {
        if (!isShelf(s)) {
            return NOBODY;
        }
        if (shelves[s].state == Shelf.PIECE) {
            return OTHER;
        }
        return shelves[s].state == Shelf.EMPTY ? NOTHING : 0;
    }

    private int refusalOfPiece(int s) {
        if (!isShelf(s)) {
            return NOBODY;
        }
        if (shelves[s].state == Shelf.ROW) {
            return OTHER;
        }
        return shelves[s].state == Shelf.EMPTY ? NOTHING : 0;
    }

    private int refusalToBuild(int cell, int kind, int side, int arg, int period) {
        if (!isCell(cell) || (kind == MACHINE && book.numbered(arg) == null)) {
            return NOBODY;
        }
        if (!within(kind, BELT, SINK) || !sideFits(kind, side)) {
            return WRONG;
        }
        if (kind == SOURCE && !(isItem(arg) && within(period, 1, 60))) {
            return WRONG;
        }
        return floor.parts[cell].kind == BARE ? 0 : WRONG;
    }

    /** The k-th part of the plan could be built behind all that come ahead of it there. */
    private boolean canBuildFrom(Row plan, int k) {
        int at = ELEMENTS_A_PART * k;
        int cell = plan.asInt(at);
        for (int before = 0; before < at; before += ELEMENTS_A_PART) {
            if (plan.asInt(before) == cell) {
                return false;
            }
        }
        return refusalToBuild(cell, plan.asInt(at + 1), plan.asInt(at + 2), plan.asInt(at + 3), plan.asInt(at + 4)) == 0;
    }

    // ---- numbers and places

    private static boolean within(int n, int least, int most) {
        return n >= least && n <= most;
    }

    private static boolean isCell(int cell) {
        return within(cell, 0, CELLS - 1);
    }

    private static boolean isShelf(int s) {
        return within(s, 0, SHELVES - 1);
    }

    private static boolean isItem(int item) {
        return within(item, 1, ITEMS);
    }

    private static boolean sideFits(int kind, int side) {
        if (kind == SINK) {
            return true;
        }
        if (kind == SPLITTER) {
            return within(side, 0, 15) && within(Integer.bitCount(side), 2, 3);
        }
        return within(side, 0, LAST_SIDE);
    }

    private static boolean isOnFloor(int cell, int w, int h) {
        return w <= WIDE - cell % WIDE && h <= WIDE - cell / WIDE;
    }

    private static int opposite(int side) {
        return (side + 2) & 3;
    }

    /** The cell that lies on a side of another; NONE beyond the floor. */
    private static int neighbour(int cell, int side) {
        int x = cell % WIDE;
        int y = cell / WIDE;
        switch (side) {
            case 0: return y > 0 ? cell - WIDE : NONE;
            case 1: return x < WIDE - 1 ? cell + 1 : NONE;
            case 2: return y < WIDE - 1 ? cell + WIDE : NONE;
            default: return x > 0 ? cell - 1 : NONE;
        }
    }

    /** What an item is made from. */
    private static final class Recipe {
        final int item;
        final int makes;
        final int ticks;
        final int power;
        int need1;
        int n1;
        int need2;
        int n2;

        Recipe(int item, int makes, int ticks, int power) {
            this.item = item;
            this.makes = makes;
            this.ticks = ticks;
            this.power = power;
        }

        void wants(int first, int ofFirst, int second, int ofSecond) {
            need1 = first;
            n1 = ofFirst;
            need2 = second;
            n2 = ofSecond;
        }
    }

    /** All recipes by their numbers. */
    private static final class Book {
        final Recipe[] recipes = new Recipe[RECIPES];
        int count;

        int enter(Recipe fresh) {
            if (count >= RECIPES) {
                return NONE;
            }
            recipes[count] = fresh;
            count++;
            return count - 1;
        }

        Recipe numbered(int number) {
            return number >= 0 && number < count ? recipes[number] : null;
        }

        /** The number of the recipe that makes an item, NONE if it is raw. */
        int makerOf(int item) {
            for (int r = 0; r < count; r++) {
                if (recipes[r].item == item) {
                    return r;
                }
            }
            return NONE;
        }
    }

    /** What stands in one cell; all is 0 while the cell is bare. */
    private static final class Part {
        int kind;
        int side;
        int arg;
        int period;
        Recipe recipe;
        int item;
        int clock;
        int store1;
        int store2;
        int made;
        int work;
        boolean works;
        int took;
        int gave;
        int taken;
        int given;
        int ended;

        void become(int newKind, int newSide, int newArg, int newPeriod, Recipe newRecipe) {
            boolean leads = newKind != BARE && newKind != SINK;
            kind = newKind;
            side = leads ? newSide : 0;
            arg = newKind == SOURCE || newKind == MACHINE ? newArg : 0;
            period = newKind == SOURCE ? newPeriod : 0;
            recipe = newKind == MACHINE ? newRecipe : null;
            item = 0;
            clock = 0;
            store1 = 0;
            store2 = 0;
            made = 0;
            work = 0;
            works = false;
            took = newKind == BARE ? 0 : LAST_SIDE;
            gave = took;
            forgetCounts();
        }

        void forgetCounts() {
            taken = 0;
            given = 0;
            ended = 0;
        }

        void copyFrom(Part other) {
            kind = other.kind;
            side = other.side;
            arg = other.arg;
            period = other.period;
            recipe = other.recipe;
            item = other.item;
            clock = other.clock;
            store1 = other.store1;
            store2 = other.store2;
            made = other.made;
            work = other.work;
            works = other.works;
            took = other.took;
            gave = other.gave;
            taken = other.taken;
            given = other.given;
            ended = other.ended;
        }

        boolean leadsTo(int s) {
            if (kind == BARE || kind == SINK) {
                return false;
            }
            return kind == SPLITTER ? ((side >> s) & 1) == 1 : side == s;
        }

        /** The first phase of a tick: clocks and work. */
        void prepare() {
            if (kind == SOURCE && item == 0) {
                runClock();
            }
            if (recipe != null) {
                if (works) {
                    runWork();
                }
                if (!works) {
                    beginWork();
                }
            }
        }

        private void runClock() {
            clock++;
            if (clock >= period) {
                item = arg;
                clock = 0;
            }
        }

        private void runWork() {
            work++;
            if (work >= recipe.ticks) {
                made += recipe.makes;
                works = false;
                work = 0;
                ended++;
            }
        }

        private void beginWork() {
            if (made <= recipe.makes && store1 >= recipe.n1 && store2 >= recipe.n2) {
                store1 -= recipe.n1;
                store2 -= recipe.n2;
                works = true;
                work = 0;
            }
        }

        /** The item that it would give, 0 if it has none. */
        int offered() {
            if (recipe != null) {
                return made > 0 ? recipe.item : 0;
            }
            return item;
        }

        /** It takes the item from that side, if no tunnel gives it. */
        boolean takes(int thing, int from) {
            switch (kind) {
                case BELT:
                case TUNNEL:
                case SPLITTER:
                    return item == 0 && !leadsTo(from);
                case MACHINE:
                    return !leadsTo(from) && hasRoomFor(thing);
                case SINK:
                    return true;
                default:
                    return false;
            }
        }

        private boolean hasRoomFor(int thing) {
            if (recipe == null || thing == 0) {
                return false;
            }
            if (thing == recipe.need1) {
                return store1 < 2 * recipe.n1;
            }
            return thing == recipe.need2 && store2 < 2 * recipe.n2;
        }

        void give(int to) {
            if (recipe != null) {
                made--;
            } else {
                item = 0;
            }
            if (kind == SPLITTER) {
                gave = to;
            }
            given++;
        }

        void receive(int thing, int from) {
            if (recipe != null) {
                if (thing == recipe.need1) {
                    store1++;
                } else {
                    store2++;
                }
            } else if (kind != SINK) {
                item = thing;
            }
            took = from;
            taken++;
        }

        int countItems() {
            return (item != 0 ? 1 : 0) + store1 + store2 + made;
        }

        /** All that changes in ticks, in one number: no two states share one. */
        long packed() {
            long all = item;
            all = (all << 6) | clock;
            all = (all << 4) | store1;
            all = (all << 4) | store2;
            all = (all << 4) | made;
            all = (all << 6) | work;
            all = (all << 1) | (works ? 1 : 0);
            all = (all << 2) | took;
            return (all << 2) | gave;
        }

        int tell(int what) {
            switch (what) {
                case 0: return kind;
                case 1: return side;
                case 2: return offered();
                case 3: return clock;
                case 4: return made;
                case 5: return work;
                case 6: return works ? 1 : 0;
                case 7: return store1;
                case 8: return store2;
                case 9: return took;
                case 10: return gave;
                case 11: return arg;
                case 12: return period;
                case 13: return taken;
                case 14: return given;
                default: return NONE;
            }
        }
    }

    /** All cells with their parts, and what a tick does with them. */
    private static final class Floor {
        final Book book;
        final Part[] parts = new Part[CELLS];
        final int[] sunk = new int[ITEMS + 1];
        int ticks;
        // Of each cell in this tick: who gives to it, on which side, and how far back that bid stands.
        final int[] giver = new int[CELLS];
        final int[] giverSide = new int[CELLS];
        final int[] giverRank = new int[CELLS];

        Floor(Book book) {
            this.book = book;
            for (int c = 0; c < CELLS; c++) {
                parts[c] = new Part();
            }
        }

        void place(int cell, int kind, int side, int arg, int period) {
            parts[cell].become(kind, side, arg, period, book.numbered(arg));
        }

        void copyPartsFrom(Floor other) {
            for (int c = 0; c < CELLS; c++) {
                parts[c].copyFrom(other.parts[c]);
            }
        }

        /** One tick: how many items came to sinks. */
        int step() {
            for (int c = 0; c < CELLS; c++) {
                parts[c].prepare();
                giver[c] = NONE;
            }
            for (int c = 0; c < CELLS; c++) {
                int item = parts[c].offered();
                if (item != 0) {
                    switch (parts[c].kind) {
                        case TUNNEL:
                            offerThrough(c, parts[c].side);
                            break;
                        case SPLITTER:
                            offerRound(c, parts[c]);
                            break;
                        default:
                            offerOver(c, parts[c].side, item);
                            break;
                    }
                }
            }
            int came = 0;
            for (int c = 0; c < CELLS; c++) {
                if (giver[c] != NONE) {
                    came += moveTo(c);
                }
            }
            ticks++;
            return came;
        }

        /** Offers to the nearest exit of the same side, full or not: none behind it counts. */
        private void offerThrough(int cell, int side) {
            int at = neighbour(cell, side);
            for (int far = 1; far <= REACH && at != NONE; far++) {
                if (parts[at].kind == EXIT && parts[at].side == side) {
                    if (parts[at].item == 0) {
                        bid(cell, at, side, far);
                    }
                    return;
                }
                at = neighbour(at, side);
            }
        }

        private void offerRound(int cell, Part splitter) {
            for (int k = 1; k <= 4; k++) {
                int side = (splitter.gave + k) & 3;
                if (splitter.leadsTo(side) && offerOver(cell, side, splitter.item)) {
                    return;
                }
            }
        }

        private boolean offerOver(int cell, int side, int item) {
            int to = neighbour(cell, side);
            if (to == NONE || !parts[to].takes(item, opposite(side))) {
                return false;
            }
            bid(cell, to, side, 1);
            return true;
        }

        /** Keeps the best bid: the first side behind what the taker took last, then the nearest. */
        private void bid(int cell, int to, int side, int far) {
            int from = opposite(side);
            int rank = 8 * ((from - parts[to].took - 1) & 3) + far;
            if (giver[to] == NONE || rank < giverRank[to]) {
                giver[to] = cell;
                giverSide[to] = from;
                giverRank[to] = rank;
            }
        }

        /** Moves what the cell takes: 1 if it came to a sink. */
        private int moveTo(int cell) {
            Part from = parts[giver[cell]];
            int item = from.offered();
            from.give(opposite(giverSide[cell]));
            parts[cell].receive(item, giverSide[cell]);
            if (parts[cell].kind != SINK) {
                return 0;
            }
            sunk[item]++;
            return 1;
        }

        int countParts() {
            int count = 0;
            for (int c = 0; c < CELLS; c++) {
                if (parts[c].kind != BARE) {
                    count++;
                }
            }
            return count;
        }

        int countItems() {
            int count = 0;
            for (int c = 0; c < CELLS; c++) {
                count += parts[c].countItems();
            }
            return count;
        }

        int countSunk() {
            int count = 0;
            for (int item = 1; item <= ITEMS; item++) {
                count += sunk[item];
            }
            return count;
        }
    }

    /** Looks for the turn on a floor of its own, so that the true one stays as it is. */
    private static final class Finder {
        final Floor ghost;
        final long[] states = new long[(MOST_LIMIT + 1) * CELLS];
        final long[] marks = new long[MOST_LIMIT + 1];
        final boolean[] stuck = new boolean[CELLS];
        final boolean[] starved = new boolean[CELLS];
        boolean found;
        int first;
        int length;
        int came;
        int power;
        boolean still;

        Finder(Book book) {
            ghost = new Floor(book);
        }

        /** Finds where the turn begins and how long it is; leaves the ghost where it has just come back there. */
        boolean seek(Floor floor, int limit) {
            ghost.copyPartsFrom(floor);
            found = false;
            keepState(0);
            for (int t = 1; t <= limit && !found; t++) {
                ghost.step();
                keepState(t);
                int like = earlierLike(t);
                if (like != NONE) {
                    found = true;
                    first = like;
                    length = t - like;
                }
            }
            return found;
        }

        private void keepState(int t) {
            long mark = 0;
            for (int c = 0; c < CELLS; c++) {
                long packed = ghost.parts[c].packed();
                states[t * CELLS + c] = packed;
                mark = mark * 1000003L + packed;
            }
            marks[t] = mark;
        }

        private int earlierLike(int t) {
            for (int k = 0; k < t; k++) {
                if (marks[k] == marks[t] && sameStates(k, t)) {
                    return k;
                }
            }
            return NONE;
        }

        private boolean sameStates(int k, int t) {
            for (int c = 0; c < CELLS; c++) {
                if (states[k * CELLS + c] != states[t * CELLS + c]) {
                    return false;
                }
            }
            return true;
        }

        void watchTurn() {
            came = 0;
            power = 0;
            still = true;
            for (int c = 0; c < CELLS; c++) {
                ghost.parts[c].forgetCounts();
                stuck[c] = true;
                starved[c] = ghost.parts[c].kind == MACHINE;
            }
            for (int t = 0; t < length; t++) {
                came += ghost.step();
                watchTickEnd();
            }
            for (int c = 0; c < CELLS; c++) {
                if (ghost.parts[c].given > 0) {
                    stuck[c] = false;
                    still = false;
                }
            }
        }

        private void watchTickEnd() {
            int sum = 0;
            for (int c = 0; c < CELLS; c++) {
                Part part = ghost.parts[c];
                if (part.offered() == 0) {
                    stuck[c] = false;
                }
                if (part.recipe != null) {
                    if (part.works) {
                        sum += part.recipe.power;
                        still = false;
                    }
                    if (part.works || part.made > part.recipe.makes) {
                        starved[c] = false;
                    }
                }
            }
            power = Math.max(power, sum);
        }

        int tellTurn(int what) {
            if (!found) {
                return NONE;
            }
            switch (what) {
                case 0: return first;
                case 1: return length;
                case 2: return came;
                case 3: return power;
                case 4: return still ? 1 : 0;
                default: return NONE;
            }
        }

        int tellCell(int cell, int what) {
            Part part = ghost.parts[cell];
            if (!found || part.kind == BARE) {
                return NONE;
            }
            switch (what) {
                case 0: return part.taken;
                case 1: return part.given;
                case 2: return part.ended;
                case 3: return stuck[cell] ? 1 : 0;
                case 4: return starved[cell] ? 1 : 0;
                default: return NONE;
            }
        }
    }

    /** A shelf's place for a row and for a piece; its state says which of them counts. */
    private static final class Shelf {
        static final int EMPTY = 0;
        static final int ROW = 1;
        static final int PIECE = 2;

        final Row row = new Row();
        final Piece piece = new Piece();
        int state;

        void holdRow(int sort, int n) {
            state = ROW;
            row.renew(sort, n);
        }
    }

    private static final class Row {
        final long[] elements = new long[MOST_ELEMENTS];
        int sort;
        int size;

        void renew(int newSort, int newSize) {
            sort = newSort;
            size = newSize;
            Arrays.fill(elements, 0L);
        }

        /** All n elements from the i-th on are there; n is 0 or more. */
        boolean has(int i, int n) {
            return i >= 0 && i <= size - n;
        }

        void keep(int i, long v) {
            switch (sort) {
                case 0:
                    elements[i] = (byte) v;
                    break;
                case 1:
                    elements[i] = (short) v;
                    break;
                case 2:
                    elements[i] = (int) v;
                    break;
                default:
                    elements[i] = v;
                    break;
            }
        }

        int asInt(int i) {
            return (int) elements[i];
        }
    }

    /** A piece of floor: its size, and its parts as they would be built. */
    private static final class Piece {
        final int[] xs = new int[CELLS];
        final int[] ys = new int[CELLS];
        final int[] kinds = new int[CELLS];
        final int[] sides = new int[CELLS];
        final int[] args = new int[CELLS];
        final int[] periods = new int[CELLS];
        int width;
        int height;
        int count;

        void cut(Floor floor, int cell, int w, int h) {
            width = w;
            height = h;
            count = 0;
            for (int y = 0; y < h; y++) {
                for (int x = 0; x < w; x++) {
                    Part part = floor.parts[cell + WIDE * y + x];
                    if (part.kind != BARE) {
                        keep(part, x, y);
                    }
                }
            }
        }

        private void keep(Part part, int x, int y) {
            xs[count] = x;
            ys[count] = y;
            kinds[count] = part.kind;
            sides[count] = part.side;
            args[count] = part.arg;
            periods[count] = part.period;
            count++;
        }

        int widthAt(int turns) {
            return (turns & 1) == 0 ? width : height;
        }

        int heightAt(int turns) {
            return (turns & 1) == 0 ? height : width;
        }

        boolean fits(Floor floor, int cell, int turns) {
            for (int k = 0; k < count; k++) {
                if (floor.parts[cellOf(k, cell, turns)].kind != BARE) {
                    return false;
                }
            }
            return true;
        }

        void paste(Floor floor, int cell, int turns) {
            for (int k = 0; k < count; k++) {
                floor.place(cellOf(k, cell, turns), kinds[k], turnedSide(k, turns), args[k], periods[k]);
            }
        }

        /** A quarter takes (x, y) to (height - 1 - y, x). */
        private int cellOf(int k, int cell, int turns) {
            int right = width - 1 - xs[k];
            int below = height - 1 - ys[k];
            switch (turns) {
                case 0: return cell + WIDE * ys[k] + xs[k];
                case 1: return cell + WIDE * xs[k] + below;
                case 2: return cell + WIDE * below + right;
                default: return cell + WIDE * right + ys[k];
            }
        }

        private int turnedSide(int k, int turns) {
            if (kinds[k] == SPLITTER) {
                return ((sides[k] << turns) | (sides[k] >> (4 - turns))) & 15;
            }
            return (sides[k] + turns) & 3;
        }
    }

    /** Finds and builds shortest ways of belts. */
    private static final class Router {
        // How many belts are wanted from a bare cell on (with its own); 0: no way, or not bare.
        final int[] distance = new int[CELLS];
        final int[] queue = new int[CELLS];
        int queued;

        int fewest(Floor floor, int from, int to) {
            if (!isCell(from) || !isCell(to) || from == to) {
                return NONE;
            }
            if (!canGive(floor.parts[from].kind) || !canTake(floor.parts[to].kind)) {
                return NONE;
            }
            if (joined(floor, from, to)) {
                return 0;
            }
            measure(floor, to);
            int best = NONE;
            for (int side = 0; side < 4; side++) {
                int belts = beltsFrom(floor, from, side);
                if (belts > 0 && (best == NONE || belts < best)) {
                    best = belts;
                }
            }
            return best;
        }

        private boolean canGive(int kind) {
            return kind != BARE && kind != TUNNEL && kind != SINK;
        }

        private boolean canTake(int kind) {
            return kind != BARE && kind != EXIT && kind != SOURCE;
        }

        private boolean joined(Floor floor, int from, int to) {
            for (int side = 0; side < 4; side++) {
                if (floor.parts[from].leadsTo(side) && neighbour(from, side) == to) {
                    return !floor.parts[to].leadsTo(opposite(side));
                }
            }
            return false;
        }

        private int beltsFrom(Floor floor, int from, int side) {
            int next = neighbour(from, side);
            return floor.parts[from].leadsTo(side) && next != NONE ? distance[next] : 0;
        }

        /** Goes back from the end, ring by ring, over bare cells. */
        private void measure(Floor floor, int to) {
            Arrays.fill(distance, 0);
            queued = 0;
            for (int side = 0; side < 4; side++) {
                if (!floor.parts[to].leadsTo(side)) {
                    reach(floor, neighbour(to, side), 1);
                }
            }
            for (int head = 0; head < queued; head++) {
                int cell = queue[head];
                for (int side = 0; side < 4; side++) {
                    reach(floor, neighbour(cell, side), distance[cell] + 1);
                }
            }
        }

        private void reach(Floor floor, int cell, int belts) {
            if (cell == NONE || distance[cell] != 0 || floor.parts[cell].kind != BARE || queued >= CELLS) {
                return;
            }
            distance[cell] = belts;
            queue[queued] = cell;
            queued++;
        }

        /** Builds what fewest() has just measured, always on over the least side that is short. */
        void buildWay(Floor floor, int from, int to, int belts) {
            int cell = firstOfWay(floor, from, belts);
            for (int left = belts; left > 0 && cell != NONE; left--) {
                int side = left == 1 ? sideTo(cell, to) : sideToward(cell, left - 1);
                floor.place(cell, BELT, side, 0, 0);
                cell = neighbour(cell, side);
            }
        }

        private int firstOfWay(Floor floor, int from, int belts) {
            for (int side = 0; side < 4; side++) {
                if (beltsFrom(floor, from, side) == belts) {
                    return neighbour(from, side);
                }
            }
            return NONE;
        }

        private int sideTo(int cell, int to) {
            for (int side = 0; side < LAST_SIDE; side++) {
                if (neighbour(cell, side) == to) {
                    return side;
                }
            }
            return LAST_SIDE;
        }

        private int sideToward(int cell, int belts) {
            for (int side = 0; side < LAST_SIDE; side++) {
                int next = neighbour(cell, side);
                if (next != NONE && distance[next] == belts) {
                    return side;
                }
            }
            return LAST_SIDE;
        }
    }

    /** What a wish wants. All rates are whole numbers over one bottom, in which every division comes out even. */
    private static final class Planner {
        final int[] machines = new int[RECIPES];
        final long[] tops = new long[ITEMS + 1];
        // Of each recipe a bit for every recipe that it needs, over others too.
        final int[] needs = new int[RECIPES];
        long bottom = 1;

        /** The machines of all recipes; NONE, and nothing changes, if an item would need itself. */
        int plan(Book book, int item, int p, int q) {
            int maker = book.makerOf(item);
            gatherNeeds(book);
            if (maker == NONE || needsItself(maker)) {
                return NONE;
            }
            bottom = q;
            for (int r = 0; r < book.count; r++) {
                bottom *= book.recipes[r].makes;
            }
            Arrays.fill(tops, 0L);
            Arrays.fill(machines, 0);
            tops[item] = bottom / q * p;
            return spread(book, needs[maker] | (1 << maker));
        }

        private void gatherNeeds(Book book) {
            Arrays.fill(needs, 0);
            for (int r = 0; r < book.count; r++) {
                needs[r] = bitOf(book.makerOf(book.recipes[r].need1)) | bitOf(book.makerOf(book.recipes[r].need2));
            }
            for (int over = 0; over < book.count; over++) {
                for (int r = 0; r < book.count; r++) {
                    if (hasBit(needs[r], over)) {
                        needs[r] |= needs[over];
                    }
                }
            }
        }

        private int bitOf(int recipe) {
            return recipe == NONE ? 0 : 1 << recipe;
        }

        private boolean hasBit(int bits, int recipe) {
            return ((bits >> recipe) & 1) == 1;
        }

        private boolean needsItself(int maker) {
            int all = needs[maker] | (1 << maker);
            for (int r = 0; r < RECIPES; r++) {
                if (hasBit(all, r) && hasBit(needs[r], r)) {
                    return true;
                }
            }
            return false;
        }

        /** Goes from each recipe to its needs when no other one that is left wants more of it. */
        private int spread(Book book, int recipes) {
            int left = recipes;
            int sum = 0;
            for (int round = 0; round < RECIPES; round++) {
                int next = unneeded(left);
                Recipe recipe = book.numbered(next);
                if (recipe == null) {
                    return sum;
                }
                left &= ~(1 << next);
                machines[next] = run(recipe);
                sum += machines[next];
            }
            return sum;
        }

        private int unneeded(int left) {
            int needed = 0;
            for (int r = 0; r < RECIPES; r++) {
                if (hasBit(left, r)) {
                    needed |= needs[r];
                }
            }
            for (int r = 0; r < RECIPES; r++) {
                if (hasBit(left, r) && !hasBit(needed, r)) {
                    return r;
                }
            }
            return NONE;
        }

        private int run(Recipe recipe) {
            long runs = tops[recipe.item] / recipe.makes;
            tops[recipe.need1] += runs * recipe.n1;
            tops[recipe.need2] += runs * recipe.n2;
            return (int) ((runs * recipe.ticks + bottom - 1) / bottom);
        }

        long rateOf(int item, boolean lower) {
            // The bottom is never 0, so the divisor isn't either.
            long common = Math.max(1, commonDivisor(tops[item], bottom));
            return (lower ? bottom : tops[item]) / common;
        }

        private long commonDivisor(long a, long b) {
            long big = a;
            long small = b;
            for (int k = 0; k < 200 && small != 0; k++) {
                long rest = big % small;
                big = small;
                small = rest;
            }
            return big;
        }
    }
}
