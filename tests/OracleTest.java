import java.math.BigInteger;
import java.util.ArrayList;
import java.util.Arrays;
import java.util.HashMap;
import java.util.List;
import java.util.Map;
import java.util.Random;

/** Runs of calls drawn with fixed seeds; the answers are held against a second, plain writing of the document. */
public final class OracleTest {
    private static int wrong = 0;
    private static long calls = 0;

    public static void main(String[] args) {
        for (int seed = 0; seed < 1500 && wrong < 20; seed++) {
            new Run(seed).go();
        }
        System.out.println(calls + " calls against the oracle, " + wrong + " wrong");
        if (wrong != 0) {
            System.exit(1);
        }
    }

    /** One run on a new object, at most 512 calls. */
    private static final class Run {
        final Random random;
        final int seed;
        final FloorTurn real = new FloorTurn();
        final Oracle oracle = new Oracle();
        final int left;
        final int top;
        final int span;
        final boolean wild;
        final int items;
        int made = 0;

        Run(int seed) {
            this.seed = seed;
            random = new Random(seed * 7919L + 13);
            span = 3 + random.nextInt(10);
            left = random.nextInt(13 - Math.min(span, 12));
            top = random.nextInt(13 - Math.min(span, 12));
            wild = seed % 5 == 0;
            items = seed % 3 == 0 ? 20 : 12;
        }

        void go() {
            int recipes = random.nextInt(10);
            for (int k = 0; k < recipes; k++) {
                makeRecipe();
            }
            int shops = random.nextInt(4) * random.nextInt(4);
            for (int k = 0; k < shops; k++) {
                makeShop();
            }
            int parts = random.nextInt(Math.min(100, span * span + 1));
            for (int k = 0; k < parts; k++) {
                makePart();
            }
            while (made < 500 && wrong < 20) {
                step();
            }
        }

        void step() {
            int r = random.nextInt(100);
            if (r < 2) makeRecipe();
            else if (r < 4) makeShop();
            else if (r < 12) makePart();
            else if (r < 16) { int c = cell(); due("raze(" + c + ")", real.raze(c), oracle.raze(c)); }
            else if (r < 28) { int n = odd(200) ? number() : 1 + random.nextInt(random.nextInt(4) == 0 ? 200 : 6);
                due("tick(" + n + ")", real.tick(n), oracle.tick(n)); }
            else if (r < 36) look();
            else if (r < 41) { int limit = odd(50) ? number() : 1 + random.nextInt(400);
                due("turn(" + limit + ")", real.turn(limit), oracle.turn(limit)); lookAtTurn(); }
            else if (r < 47) shelfCall();
            else if (r < 52) takeCall();
            else if (r < 57) { int s = shelf(), c = cell(), t = odd(10) ? number() : random.nextInt(4);
                due("put(" + s + ", " + c + ", " + t + ")", real.put(s, c, t), oracle.put(s, c, t)); }
            else if (r < 63) { int from = cell(), to = cell();
                due("path(" + from + ", " + to + ")", real.path(from, to), oracle.path(from, to)); }
            else if (r < 68) { int from = cell(), to = cell();
                due("lay(" + from + ", " + to + ")", real.lay(from, to), oracle.lay(from, to)); }
            else if (r < 74) wishCall();
            else if (r < 78) buildsCall();
            else if (r < 88) { int c = cell(), w = odd(10) ? number() : random.nextInt(15);
                due("part(" + c + ", " + w + ")", real.part(c, w), oracle.part(c, w)); }
            else { int w = odd(20) ? number() : random.nextInt(18);
                due("status(" + w + ")", real.status(w), oracle.status(w)); }
        }

        /** Looks at much that isn't refused; it counts as one call here, since what it asks changes nothing. */
        void look() {
            int keep = made;
            for (int c = -1; c <= 144; c++) {
                for (int w = 0; w <= 14; w++) {
                    due("part(" + c + ", " + w + ")", real.part(c, w), oracle.part(c, w));
                }
            }
            for (int w = -1; w <= 18; w++) {
                due("status(" + w + ")", real.status(w), oracle.status(w));
            }
            for (int i = -1; i <= 21; i++) {
                due("sunk(" + i + ")", real.sunk(i), oracle.sunk(i));
            }
            for (int s = -1; s <= 8; s++) {
                due("holds(" + s + ")", real.holds(s), oracle.holds(s));
                for (int i = -1; i <= 100; i++) {
                    due("element(" + s + ", " + i + ")", real.element(s, i), oracle.element(s, i));
                }
            }
            made = keep + 1;
        }

        void lookAtTurn() {
            int keep = made;
            for (int w = -1; w <= 5; w++) {
                due("turned(" + w + ")", real.turned(w), oracle.turned(w));
            }
            for (int c = -1; c <= 144; c++) {
                for (int w = -1; w <= 5; w++) {
                    due("cellTurn(" + c + ", " + w + ")", real.cellTurn(c, w), oracle.cellTurn(c, w));
                }
            }
            made = keep;
        }

        void makeRecipe() {
            int item = odd(20) ? number() : 1 + random.nextInt(items);
            int makes = odd(30) ? number() : 1 + random.nextInt(4);
            int ticks = odd(30) ? number() : 1 + random.nextInt(random.nextInt(3) == 0 ? 60 : 5);
            int need1 = odd(30) ? number() : 1 + random.nextInt(random.nextBoolean() ? 3 : items);
            int n1 = odd(30) ? number() : 1 + random.nextInt(4);
            int need2 = odd(30) ? number() : random.nextInt(random.nextBoolean() ? 4 : items + 1);
            int n2 = odd(30) ? number() : 1 + random.nextInt(4);
            int power = odd(30) ? number() : random.nextInt(101);
            due("recipe(" + item + ", " + makes + ", " + ticks + ", " + need1 + ", " + n1 + ", " + need2 + ", " + n2 + ", " + power + ")",
                    real.recipe(item, makes, ticks, need1, n1, need2, n2, power),
                    oracle.recipe(item, makes, ticks, need1, n1, need2, n2, power));
        }

        void makePart() {
            int[] p = partArguments();
            due("build(" + Arrays.toString(p) + ")", real.build(p[0], p[1], p[2], p[3], p[4]), oracle.build(p[0], p[1], p[2], p[3], p[4]));
        }

        /** A machine with sources of what it needs around it, and something behind it: most shops work. */
        void makeShop() {
            if (oracle.recipes.isEmpty()) {
                return;
            }
            int cell = cell();
            int number = random.nextInt(oracle.recipes.size());
            int[] recipe = oracle.recipes.get(number);
            int side = random.nextInt(4);
            if (cell < 0 || cell > 143) {
                return;
            }
            build(cell, 6, side, number, 0);
            int[] behind = {7, 7, 1, 4, 6};
            int next = oracle.next(cell, side);
            if (next >= 0 && random.nextInt(5) != 0) {
                int kind = behind[random.nextInt(behind.length)];
                build(next, kind, kind == 4 ? 15 - (1 << (side + 2) % 4) : side, random.nextInt(oracle.recipes.size()), 0);
            }
            for (int k = 1; k <= 3; k++) {
                int from = oracle.next(cell, (side + k) % 4);
                int need = k == 2 || recipe[5] == 0 ? recipe[3] : recipe[5];
                if (from >= 0 && random.nextInt(6) != 0) {
                    build(from, 5, (side + k + 2) % 4, need, 1 + random.nextInt(random.nextInt(4) == 0 ? 20 : 3));
                }
            }
        }

        void build(int cell, int kind, int side, int arg, int period) {
            due("build(" + cell + ", " + kind + ", " + side + ", " + arg + ", " + period + ")",
                    real.build(cell, kind, side, arg, period), oracle.build(cell, kind, side, arg, period));
        }

        int[] partArguments() {
            int[] kinds = {1, 1, 1, 1, 2, 2, 3, 3, 4, 4, 5, 5, 6, 6, 7};
            int kind = odd(40) ? number() : kinds[random.nextInt(kinds.length)];
            int[] outs = {3, 5, 6, 7, 9, 10, 11, 12, 13, 14};
            int side = kind == 4 ? (odd(20) ? random.nextInt(18) - 1 : outs[random.nextInt(outs.length)])
                    : odd(30) ? number() : random.nextInt(4);
            if ((kind == 2 || kind == 3) && random.nextInt(3) != 0) {
                side = seed & 3;
            }
            int arg = odd(30) ? number() : kind == 6 ? random.nextInt(Math.max(1, oracle.recipes.size()))
                    : random.nextInt(12) == 0 ? 20 : 1 + random.nextInt(4);
            int period = odd(30) ? number() : 1 + random.nextInt(random.nextInt(4) == 0 ? 60 : 4);
            return new int[] {cell(), kind, side, arg, period};
        }

        void buildsCall() {
            int s = random.nextInt(8);
            int parts = 1 + random.nextInt(3);
            int n = 5 * parts + (odd(8) ? 1 : 0);
            int sort = random.nextInt(4);
            if (made + n + 2 > 505) {
                return;
            }
            due("row", real.row(s, sort, n), oracle.row(s, sort, n));
            for (int k = 0; k < parts; k++) {
                int[] p = partArguments();
                for (int i = 0; i < 5; i++) {
                    long v = p[i] + (sort == 3 && random.nextBoolean() ? 1L << 32 : 0);
                    due("set(" + s + ", " + (5 * k + i) + ", " + v + ")", real.set(s, 5 * k + i, v), oracle.set(s, 5 * k + i, v));
                }
            }
            due("builds(" + s + ")", real.builds(s), oracle.builds(s));
        }

        void shelfCall() {
            int s = shelf();
            int q = shelf();
            int r = random.nextInt(8);
            if (r == 0) {
                int sort = odd(10) ? number() : random.nextInt(4);
                int n = odd(8) ? number() : random.nextInt(20);
                due("row(" + s + ", " + sort + ", " + n + ")", real.row(s, sort, n), oracle.row(s, sort, n));
            } else if (r < 3) {
                int i = odd(10) ? number() : random.nextInt(15);
                long v = random.nextLong() >> random.nextInt(64);
                due("set(" + s + ", " + i + ", " + v + ")", real.set(s, i, v), oracle.set(s, i, v));
            } else if (r < 5) {
                int i = odd(10) ? number() : random.nextInt(6);
                int j = odd(10) ? number() : random.nextInt(6);
                int n = odd(10) ? number() : random.nextInt(6);
                q = random.nextInt(3) == 0 ? s : q;
                due("copy(" + s + ", " + q + ", " + i + ", " + j + ", " + n + ")", real.copy(s, q, i, j, n), oracle.copy(s, q, i, j, n));
            } else if (r == 5) {
                due("clear(" + s + ")", real.clear(s), oracle.clear(s));
            } else if (r == 6) {
                due("partsIn(" + s + ")", real.partsIn(s), oracle.partsIn(s));
            } else {
                due("builds(" + s + ")", real.builds(s), oracle.builds(s));
            }
        }

        void takeCall() {
            int s = shelf();
            int c = cell();
            int w = odd(10) ? number() : 1 + random.nextInt(5);
            int h = odd(10) ? number() : 1 + random.nextInt(5);
            due("take(" + s + ", " + c + ", " + w + ", " + h + ")", real.take(s, c, w, h), oracle.take(s, c, w, h));
        }

        void wishCall() {
            int item = 1 + random.nextInt(items);
            if (!oracle.recipes.isEmpty() && random.nextInt(4) != 0) {
                item = oracle.recipes.get(random.nextInt(oracle.recipes.size()))[0];
            }
            int p = odd(20) ? number() : 1 + random.nextInt(60);
            int q = odd(20) ? number() : 1 + random.nextInt(60);
            due("wish(" + item + ", " + p + ", " + q + ")", real.wish(item, p, q), oracle.wish(item, p, q));
            int keep = made;
            for (int r = -1; r <= 8; r++) {
                due("machines(" + r + ")", real.machines(r), oracle.machines(r));
            }
            for (int i = -1; i <= 21; i++) {
                due("rate(" + i + ", false)", real.rate(i, false), oracle.rate(i, false));
                due("rate(" + i + ", true)", real.rate(i, true), oracle.rate(i, true));
            }
            made = keep;
        }

        /** Now and then, and only in wild runs, an argument is drawn from the numbers nobody waits for. */
        boolean odd(int oneIn) {
            return wild && random.nextInt(oneIn) == 0;
        }

        int number() {
            int[] odd = {Integer.MIN_VALUE, Integer.MAX_VALUE, -1, 0, -2, 5, 8, 21, 61, 100, 101, 143, 144, 201, 401, 1 << 16, 1 << 31 | 5};
            return odd[random.nextInt(odd.length)];
        }

        int cell() {
            if (odd(20)) {
                return number();
            }
            int x = Math.min(11, left + random.nextInt(span));
            int y = Math.min(11, top + random.nextInt(span));
            return 12 * y + x;
        }

        int shelf() {
            return odd(20) ? number() : random.nextInt(3);
        }

        void due(String call, long got, long want) {
            made++;
            calls++;
            if (got != want) {
                wrong++;
                System.out.println("seed " + seed + ", call " + made + ": " + call + " answered " + got + ", the oracle says " + want);
            }
        }
    }

    private static final class Cell implements Cloneable {
        int kind, side, arg, period;
        int item, clock, made, work, took, gave, taken, given, ended;
        int[] store = new int[2];
        boolean works;

        Cell same() {
            Cell c = new Cell();
            c.kind = kind; c.side = side; c.arg = arg; c.period = period;
            c.item = item; c.clock = clock; c.made = made; c.work = work; c.took = took; c.gave = gave;
            c.taken = taken; c.given = given; c.ended = ended;
            c.store = store.clone(); c.works = works;
            return c;
        }

        String state() {
            return item + "," + clock + "," + made + "," + work + "," + took + "," + gave + "," + store[0] + "," + store[1] + "," + works;
        }
    }

    /** The document once more: slow, and with the library. A null cell is bare. */
    private static final class Oracle {
        List<int[]> recipes = new ArrayList<>();
        Cell[] cells = new Cell[144];
        Object[] shelves = new Object[8];
        int[] sorts = new int[8];
        int[] refused = new int[8];
        int[] sunk = new int[21];
        int ticks = 0;
        Map<Integer, BigInteger[]> rates = new HashMap<>();
        int[] machines = new int[8];
        int[] turn = null;
        int[][] cellTurns = null;

        int no(int number) {
            refused[-number]++;
            return number;
        }

        int makerOf(int item) {
            for (int r = 0; r < recipes.size(); r++) {
                if (recipes.get(r)[0] == item) return r;
            }
            return -1;
        }

        int recipe(int item, int makes, int ticks, int need1, int n1, int need2, int n2, int power) {
            if (item < 1 || item > 20 || makes < 1 || makes > 4 || ticks < 1 || ticks > 60 || power < 0 || power > 100) return no(-6);
            if (need1 < 1 || need1 > 20 || n1 < 1 || n1 > 4 || need2 < 0 || need2 > 20) return no(-6);
            if (need2 != 0 && (n2 < 1 || n2 > 4)) return no(-6);
            if (need1 == item || need2 == item || need1 == need2 || makerOf(item) >= 0) return no(-6);
            if (recipes.size() == 8) return no(-7);
            recipes.add(new int[] {item, makes, ticks, need1, n1, need2, need2 == 0 ? 0 : n2, power});
            return recipes.size() - 1;
        }

        int tryBuild(int cell, int kind, int side, int arg, int period) {
            if (cell < 0 || cell > 143) return -1;
            if (kind == 6 && (arg < 0 || arg >= recipes.size())) return -1;
            if (kind < 1 || kind > 7) return -6;
            if (kind == 4) {
                List<Integer> outs = Arrays.asList(3, 5, 6, 9, 10, 12, 7, 11, 13, 14);
                if (!outs.contains(side)) return -6;
            } else if (kind != 7 && (side < 0 || side > 3)) {
                return -6;
            }
            if (kind == 5 && (arg < 1 || arg > 20 || period < 1 || period > 60)) return -6;
            if (cells[cell] != null) return -6;
            Cell c = new Cell();
            c.kind = kind;
            c.side = kind == 7 ? 0 : side;
            c.arg = kind == 5 || kind == 6 ? arg : 0;
            c.period = kind == 5 ? period : 0;
            c.took = 3;
            c.gave = 3;
            cells[cell] = c;
            return 1;
        }

        int build(int cell, int kind, int side, int arg, int period) {
            int answer = tryBuild(cell, kind, side, arg, period);
            return answer < 0 ? no(answer) : answer;
        }

        boolean noShelf(int s) {
            return s < 0 || s > 7;
        }

        int builds(int s) {
            if (noShelf(s)) return no(-1);
            if (shelves[s] instanceof Piece) return no(-2);
            if (shelves[s] == null) return no(-3);
            long[] row = (long[]) shelves[s];
            if (row.length % 5 != 0) return no(-6);
            Cell[] before = cells.clone();
            for (int k = 0; k < row.length; k += 5) {
                if (tryBuild((int) row[k], (int) row[k + 1], (int) row[k + 2], (int) row[k + 3], (int) row[k + 4]) < 0) {
                    cells = before;
                    return no(-6);
                }
            }
            return row.length / 5;
        }

        int raze(int cell) {
            if (cell < 0 || cell > 143) return no(-1);
            int kind = cells[cell] == null ? 0 : cells[cell].kind;
            cells[cell] = null;
            return kind;
        }

        int row(int s, int sort, int n) {
            if (noShelf(s)) return no(-1);
            if (n < 0) return no(-4);
            if (sort < 0 || sort > 3) return no(-6);
            if (n > 100) return no(-7);
            shelves[s] = new long[n];
            sorts[s] = sort;
            return 1;
        }

        int set(int s, int i, long v) {
            if (noShelf(s)) return no(-1);
            if (shelves[s] instanceof Piece) return no(-2);
            if (shelves[s] == null) return no(-3);
            long[] row = (long[]) shelves[s];
            if (i < 0 || i >= row.length) return no(-5);
            int drop = new int[] {56, 48, 32, 0}[sorts[s]];
            row[i] = v << drop >> drop;
            return 1;
        }

        int copy(int p, int q, int i, int j, int n) {
            if (noShelf(p) || noShelf(q)) return no(-1);
            Object a = shelves[p];
            Object b = shelves[q];
            if (a instanceof Piece || b instanceof Piece) return no(-2);
            if (a != null && b != null && sorts[p] != sorts[q]) return no(-2);
            if (a == null || b == null) return no(-3);
            if (n < 0) return no(-4);
            long[] x = ((long[]) a).clone();
            long[] y = (long[]) b;
            if (i < 0 || j < 0 || (long) i + n > x.length || (long) j + n > y.length) return no(-5);
            for (int k = 0; k < n; k++) y[j + k] = x[i + k];
            return 1;
        }

        long element(int s, int i) {
            if (noShelf(s) || !(shelves[s] instanceof long[])) return 0;
            long[] row = (long[]) shelves[s];
            return i < 0 || i >= row.length ? 0 : row[i];
        }

        int clear(int s) {
            if (noShelf(s)) return no(-1);
            int held = shelves[s] == null ? 0 : 1;
            shelves[s] = null;
            return held;
        }

        int holds(int s) {
            if (noShelf(s) || shelves[s] == null) return -1;
            return shelves[s] instanceof Piece ? 0 : 100 + sorts[s];
        }

        private static final class Piece {
            int w, h;
            Cell[][] at;

            Piece(int w, int h) {
                this.w = w;
                this.h = h;
                at = new Cell[h][w];
            }

            Piece quarter() {
                Piece p = new Piece(h, w);
                for (int y = 0; y < h; y++) {
                    for (int x = 0; x < w; x++) {
                        if (at[y][x] == null) continue;
                        Cell c = at[y][x].same();
                        if (c.kind == 4) {
                            int outs = 0;
                            for (int s = 0; s < 4; s++) if ((c.side >> s & 1) == 1) outs += 1 << (s + 1) % 4;
                            c.side = outs;
                        } else if (c.kind != 7) {
                            c.side = (c.side + 1) % 4;
                        }
                        p.at[x][h - 1 - y] = c;
                    }
                }
                return p;
            }

            int parts() {
                int n = 0;
                for (Cell[] line : at) for (Cell c : line) if (c != null) n++;
                return n;
            }
        }

        int take(int s, int cell, int w, int h) {
            if (noShelf(s) || cell < 0 || cell > 143) return no(-1);
            if (w < 0 || h < 0) return no(-4);
            if (w == 0 || h == 0 || (long) cell % 12 + w > 12 || (long) cell / 12 + h > 12) return no(-6);
            Piece p = new Piece(w, h);
            for (int y = 0; y < h; y++) for (int x = 0; x < w; x++) {
                Cell c = cells[cell + 12 * y + x];
                p.at[y][x] = c == null ? null : c.same();
            }
            shelves[s] = p;
            return p.parts();
        }

        int put(int s, int cell, int turns) {
            if (noShelf(s) || cell < 0 || cell > 143) return no(-1);
            if (shelves[s] instanceof long[]) return no(-2);
            if (shelves[s] == null) return no(-3);
            if (turns < 0 || turns > 3) return no(-6);
            Piece p = (Piece) shelves[s];
            for (int k = 0; k < turns; k++) p = p.quarter();
            if (cell % 12 + p.w > 12 || cell / 12 + p.h > 12) return no(-6);
            Cell[] before = cells.clone();
            for (int y = 0; y < p.h; y++) for (int x = 0; x < p.w; x++) {
                Cell c = p.at[y][x];
                if (c != null && tryBuild(cell + 12 * y + x, c.kind, c.side, c.arg, c.period) < 0) {
                    cells = before;
                    return no(-6);
                }
            }
            return p.parts();
        }

        int partsIn(int s) {
            if (noShelf(s)) return no(-1);
            if (shelves[s] instanceof long[]) return no(-2);
            if (shelves[s] == null) return no(-3);
            return ((Piece) shelves[s]).parts();
        }

        int next(int cell, int side) {
            int x = cell % 12 + new int[] {0, 1, 0, -1}[side];
            int y = cell / 12 + new int[] {-1, 0, 1, 0}[side];
            return x < 0 || x > 11 || y < 0 || y > 11 ? -1 : 12 * y + x;
        }

        boolean leads(int cell, int side) {
            Cell c = cells[cell];
            if (c == null || c.kind == 7) return false;
            return c.kind == 4 ? (c.side >> side & 1) == 1 : c.side == side;
        }

        int itemOf(Cell c) {
            if (c == null) return 0;
            return c.kind == 6 ? (c.made > 0 ? recipes.get(c.arg)[0] : 0) : c.item;
        }

        boolean takes(int cell, int side, int item) {
            Cell c = cells[cell];
            if (c == null || c.kind == 5 || c.kind == 3) return false;
            if (c.kind == 7) return true;
            if (leads(cell, side)) return false;
            if (c.kind != 6) return c.item == 0;
            int[] r = recipes.get(c.arg);
            if (item == r[3]) return c.store[0] < 2 * r[4];
            if (item == r[5]) return c.store[1] < 2 * r[6];
            return false;
        }

        int exitOf(int cell) {
            int at = cell;
            for (int k = 0; k < 5; k++) {
                at = next(at, cells[cell].side);
                if (at < 0) return -1;
                if (cells[at] != null && cells[at].kind == 3 && cells[at].side == cells[cell].side) return at;
            }
            return -1;
        }

        /** The side over which a part offers, -1 if none takes. */
        int offers(int cell) {
            Cell c = cells[cell];
            int item = itemOf(c);
            if (item == 0) return -1;
            if (c.kind == 2) return exitOf(cell) >= 0 && cells[exitOf(cell)].item == 0 ? c.side : -1;
            for (int k = 1; k <= 4; k++) {
                int side = (c.gave + k) % 4;
                if (leads(cell, side) && next(cell, side) >= 0 && takes(next(cell, side), (side + 2) % 4, item)) return side;
            }
            return -1;
        }

        int tickOnce(int[] sunk) {
            for (Cell c : cells) {
                if (c == null) continue;
                if (c.kind == 5 && c.item == 0) {
                    c.clock++;
                    if (c.clock == c.period) { c.item = c.arg; c.clock = 0; }
                }
                if (c.kind == 6) work(c);
            }
            int[] over = new int[144];
            for (int c = 0; c < 144; c++) over[c] = offers(c);
            List<int[]> moves = new ArrayList<>();
            for (int c = 0; c < 144; c++) {
                int[] move = chosen(c, over);
                if (move != null) moves.add(move);
            }
            int came = 0;
            int[] items = new int[moves.size()];
            for (int m = 0; m < items.length; m++) items[m] = itemOf(cells[moves.get(m)[0]]);
            for (int m = 0; m < items.length; m++) {
                Cell from = cells[moves.get(m)[0]];
                Cell to = cells[moves.get(m)[1]];
                from.given++;
                if (from.kind == 6) from.made--; else from.item = 0;
                if (from.kind == 4) from.gave = (moves.get(m)[2] + 2) % 4;
                to.taken++;
                to.took = moves.get(m)[2];
                if (to.kind == 7) { came++; sunk[items[m]]++; }
                else if (to.kind == 6) to.store[recipes.get(to.arg)[3] == items[m] ? 0 : 1]++;
                else to.item = items[m];
            }
            return came;
        }

        void work(Cell c) {
            int[] r = recipes.get(c.arg);
            if (c.works) {
                c.work++;
                if (c.work == r[2]) { c.made += r[1]; c.works = false; c.work = 0; c.ended++; }
            }
            if (!c.works && c.made <= r[1] && c.store[0] >= r[4] && c.store[1] >= r[6]) {
                c.store[0] -= r[4];
                c.store[1] -= r[6];
                c.works = true;
            }
        }

        /** From whom a cell takes: {giver, cell, side}. */
        int[] chosen(int cell, int[] over) {
            if (cells[cell] == null) return null;
            if (cells[cell].kind == 3) {
                int back = (cells[cell].side + 2) % 4;
                for (int at = next(cell, back), k = 0; at >= 0 && k < 5; at = next(at, back), k++) {
                    if (cells[at] != null && cells[at].kind == 2 && cells[at].side == cells[cell].side && over[at] >= 0 && exitOf(at) == cell) {
                        return new int[] {at, cell, back};
                    }
                }
                return null;
            }
            for (int k = 1; k <= 4; k++) {
                int side = (cells[cell].took + k) % 4;
                int at = next(cell, side);
                if (at >= 0 && cells[at] != null && cells[at].kind != 2 && over[at] == (side + 2) % 4) {
                    return new int[] {at, cell, side};
                }
            }
            return null;
        }

        int tick(int n) {
            if (n < 1 || n > 200) return no(-6);
            if (ticks + n > 20000) return no(-7);
            int came = 0;
            for (int k = 0; k < n; k++) came += tickOnce(sunk);
            ticks += n;
            return came;
        }

        String state() {
            StringBuilder all = new StringBuilder();
            for (Cell c : cells) all.append(c == null ? "-" : c.state()).append(';');
            return all.toString();
        }

        int turn(int limit) {
            if (limit < 1 || limit > 400) return no(-6);
            turn = null;
            Cell[] before = cells;
            cells = sameCells(before);
            Map<String, Integer> seen = new HashMap<>();
            seen.put(state(), 0);
            int answer = 0;
            for (int t = 1; t <= limit; t++) {
                tickOnce(new int[21]);
                Integer then = seen.get(state());
                if (then != null) {
                    cells = sameCells(before);
                    for (int k = 0; k < then; k++) tickOnce(new int[21]);
                    watch(then, t - then);
                    answer = t - then;
                    break;
                }
                seen.put(state(), t);
            }
            cells = before;
            return answer;
        }

        Cell[] sameCells(Cell[] from) {
            Cell[] to = new Cell[144];
            for (int c = 0; c < 144; c++) to[c] = from[c] == null ? null : from[c].same();
            return to;
        }

        void watch(int first, int length) {
            Cell[] start = sameCells(cells);
            boolean[] full = new boolean[144];
            boolean[] poor = new boolean[144];
            Arrays.fill(full, true);
            Arrays.fill(poor, true);
            int came = 0;
            int most = 0;
            boolean works = false;
            for (int t = 0; t < length; t++) {
                came += tickOnce(new int[21]);
                int power = 0;
                for (int c = 0; c < 144; c++) {
                    if (cells[c] == null) continue;
                    if (itemOf(cells[c]) == 0) full[c] = false;
                    if (cells[c].works) { power += recipes.get(cells[c].arg)[7]; works = true; }
                    if (cells[c].kind != 6 || cells[c].works || cells[c].made > recipes.get(cells[c].arg)[1]) poor[c] = false;
                }
                most = Math.max(most, power);
            }
            boolean moves = false;
            cellTurns = new int[144][];
            for (int c = 0; c < 144; c++) {
                if (cells[c] == null) continue;
                int taken = cells[c].taken - start[c].taken;
                int given = cells[c].given - start[c].given;
                moves |= taken > 0 || given > 0;
                cellTurns[c] = new int[] {taken, given, cells[c].ended - start[c].ended, full[c] && given == 0 ? 1 : 0, poor[c] ? 1 : 0};
            }
            turn = new int[] {first, length, came, most, moves || works ? 0 : 1};
        }

        int turned(int what) {
            return turn == null || what < 0 || what > 4 ? -1 : turn[what];
        }

        int cellTurn(int cell, int what) {
            if (turn == null || cell < 0 || cell > 143 || what < 0 || what > 4 || cellTurns[cell] == null) return -1;
            return cellTurns[cell][what];
        }

        int part(int cell, int what) {
            if (cell < 0 || cell > 143 || what < 0 || what > 14) return -1;
            Cell c = cells[cell];
            if (c == null) return 0;
            return new int[] {c.kind, c.side, itemOf(c), c.clock, c.made, c.work, c.works ? 1 : 0, c.store[0], c.store[1],
                c.took, c.gave, c.arg, c.period, c.taken, c.given}[what];
        }

        int sunk(int item) {
            return item < 1 || item > 20 ? 0 : sunk[item];
        }

        boolean needsItself(int item, List<Integer> above) {
            if (above.contains(item)) return true;
            int r = makerOf(item);
            if (r < 0) return false;
            List<Integer> chain = new ArrayList<>(above);
            chain.add(item);
            return needsItself(recipes.get(r)[3], chain) || (recipes.get(r)[5] != 0 && needsItself(recipes.get(r)[5], chain));
        }

        void want(int item, BigInteger upper, BigInteger lower) {
            BigInteger[] had = rates.getOrDefault(item, new BigInteger[] {BigInteger.ZERO, BigInteger.ONE});
            BigInteger u = had[0].multiply(lower).add(upper.multiply(had[1]));
            BigInteger l = had[1].multiply(lower);
            rates.put(item, new BigInteger[] {u.divide(u.gcd(l)), l.divide(u.gcd(l))});
            int r = makerOf(item);
            if (r < 0) return;
            int[] recipe = recipes.get(r);
            BigInteger below = lower.multiply(BigInteger.valueOf(recipe[1]));
            want(recipe[3], upper.multiply(BigInteger.valueOf(recipe[4])), below);
            if (recipe[5] != 0) want(recipe[5], upper.multiply(BigInteger.valueOf(recipe[6])), below);
        }

        int wish(int item, int p, int q) {
            if (makerOf(item) < 0 || p < 1 || p > 60 || q < 1 || q > 60) return no(-6);
            if (needsItself(item, new ArrayList<>())) return no(-6);
            rates.clear();
            want(item, BigInteger.valueOf(p), BigInteger.valueOf(q));
            machines = new int[8];
            int sum = 0;
            for (int r = 0; r < recipes.size(); r++) {
                int[] recipe = recipes.get(r);
                BigInteger[] rate = rates.get(recipe[0]);
                if (rate == null) continue;
                BigInteger[] parts = rate[0].multiply(BigInteger.valueOf(recipe[2]))
                        .divideAndRemainder(rate[1].multiply(BigInteger.valueOf(recipe[1])));
                machines[r] = parts[0].intValueExact() + (parts[1].signum() > 0 ? 1 : 0);
                sum += machines[r];
            }
            return sum;
        }

        int machines(int recipe) {
            return recipe < 0 || recipe > 7 ? 0 : machines[recipe];
        }

        long rate(int item, boolean lower) {
            BigInteger[] rate = rates.get(item);
            return rate == null ? (lower ? 1 : 0) : rate[lower ? 1 : 0].longValueExact();
        }

        /** The sides of the least of the shortest ways, as a text; null if there is none, empty if none is wanted. */
        String way(int from, int to) {
            if (from < 0 || from > 143 || to < 0 || to > 143 || from == to || cells[from] == null || cells[to] == null) return null;
            if (cells[from].kind == 2 || cells[from].kind == 7 || cells[to].kind == 3 || cells[to].kind == 5) return null;
            for (int s = 0; s < 4; s++) {
                if (leads(from, s) && next(from, s) == to && !leads(to, (s + 2) % 4)) return "";
            }
            Map<Integer, String> ring = new HashMap<>();
            Map<Integer, String> seen = new HashMap<>();
            for (int s = 0; s < 4; s++) {
                int n = next(from, s);
                if (leads(from, s) && n >= 0 && cells[n] == null) ring.put(n, "" + s);
            }
            while (!ring.isEmpty()) {
                seen.putAll(ring);
                String best = null;
                Map<Integer, String> further = new HashMap<>();
                for (int c : ring.keySet()) {
                    for (int s = 0; s < 4; s++) {
                        int n = next(c, s);
                        String sides = ring.get(c) + s;
                        if (n == to && !leads(to, (s + 2) % 4) && (best == null || sides.compareTo(best) < 0)) best = sides;
                        if (n < 0 || cells[n] != null || seen.containsKey(n)) continue;
                        if (!further.containsKey(n) || sides.compareTo(further.get(n)) < 0) further.put(n, sides);
                    }
                }
                if (best != null) return best;
                ring = further;
            }
            return null;
        }

        int path(int from, int to) {
            String way = way(from, to);
            return way == null ? -1 : Math.max(0, way.length() - 1);
        }

        int lay(int from, int to) {
            if (from < 0 || from > 143 || to < 0 || to > 143) return no(-1);
            String way = way(from, to);
            if (way == null) return no(-6);
            int at = from;
            for (int k = 0; k + 1 < way.length(); k++) {
                at = next(at, way.charAt(k) - '0');
                tryBuild(at, 1, way.charAt(k + 1) - '0', 0, 0);
            }
            return Math.max(0, way.length() - 1);
        }

        int status(int what) {
            int parts = 0;
            int items = 0;
            for (Cell c : cells) {
                if (c == null) continue;
                parts++;
                items += (c.item > 0 ? 1 : 0) + c.store[0] + c.store[1] + c.made;
            }
            if (what == 0) return parts;
            if (what == 1) return recipes.size();
            if (what == 2) return ticks;
            if (what == 3) return items;
            if (what == 4) return Arrays.stream(sunk).sum();
            return what >= 11 && what <= 17 ? refused[what - 10] : -1;
        }
    }
}
