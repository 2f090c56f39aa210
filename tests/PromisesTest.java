/** Each promise of the document by its number, with answers worked out by hand from its words. */
public final class PromisesTest {
    private static final int BELT = 1, TUNNEL = 2, EXIT = 3, SPLITTER = 4, SOURCE = 5, MACHINE = 6, SINK = 7;
    private static final int LEAST = Integer.MIN_VALUE, MOST = Integer.MAX_VALUE;

    private static int wrong = 0;
    private static int promise = 0;
    private static int asked = 0;
    private static FloorTurn x;

    private static void fresh(int number) {
        promise = number;
        asked = 0;
        x = new FloorTurn();
    }

    private static void due(long got, long want) {
        asked++;
        if (got != want) {
            wrong++;
            System.out.println("promise " + promise + ", question " + asked + ": answered " + got + ", due is " + want
                    + " (" + new Throwable().getStackTrace()[1] + ")");
        }
    }

    public static void main(String[] args) {
        newObject();
        recipes();
        builds();
        buildsFromRows();
        razes();
        rows();
        copies();
        shelves();
        takes();
        puts();
        ticksOfBelts();
        ticksOfSplitters();
        ticksOfTunnels();
        ticksOfMachines();
        ticksOfTakers();
        ticksAreLimited();
        turns();
        turnsOfMachines();
        turnsAmidWork();
        parts();
        wishes();
        wishesRefused();
        ways();
        waysLaid();
        status();
        System.out.println(wrong == 0 ? "all promises hold" : wrong + " answers are not as due");
        if (wrong != 0) {
            System.exit(1);
        }
    }

    private static void newObject() {
        fresh(1);
        due(FloorTurn.NONE, -1);
        for (int what = 0; what <= 4; what++) due(x.status(what), 0);
        for (int what = 11; what <= 17; what++) due(x.status(what), 0);
        for (int cell = 0; cell < 144; cell++) due(x.part(cell, 0), 0);
        for (int s = 0; s < 8; s++) due(x.holds(s), -1);
        due(x.turned(0), -1);
        due(x.cellTurn(0, 0), -1);
        due(x.sunk(1), 0);
        due(x.tick(3), 0);
        due(x.turn(1), 1);
        due(x.turned(0), 0);
        due(x.turned(4), 1);
    }

    private static void recipes() {
        fresh(2);
        due(x.recipe(0, 1, 1, 1, 1, 0, 0, 0), -6);
        due(x.recipe(21, 1, 1, 1, 1, 0, 0, 0), -6);
        due(x.recipe(5, 0, 1, 1, 1, 0, 0, 0), -6);
        due(x.recipe(5, 5, 1, 1, 1, 0, 0, 0), -6);
        due(x.recipe(5, 1, 0, 1, 1, 0, 0, 0), -6);
        due(x.recipe(5, 1, 61, 1, 1, 0, 0, 0), -6);
        due(x.recipe(5, 1, 1, 0, 1, 0, 0, 0), -6);
        due(x.recipe(5, 1, 1, 21, 1, 0, 0, 0), -6);
        due(x.recipe(5, 1, 1, 1, 0, 0, 0, 0), -6);
        due(x.recipe(5, 1, 1, 1, 5, 0, 0, 0), -6);
        due(x.recipe(5, 1, 1, 1, 1, -1, 1, 0), -6);
        due(x.recipe(5, 1, 1, 1, 1, 21, 1, 0), -6);
        due(x.recipe(5, 1, 1, 1, 1, 2, 0, 0), -6);
        due(x.recipe(5, 1, 1, 1, 1, 2, 5, 0), -6);
        due(x.recipe(5, 1, 1, 1, 1, 0, 0, -1), -6);
        due(x.recipe(5, 1, 1, 1, 1, 0, 0, 101), -6);
        due(x.recipe(5, 1, 1, 5, 1, 0, 0, 0), -6);
        due(x.recipe(5, 1, 1, 1, 1, 5, 1, 0), -6);
        due(x.recipe(5, 1, 1, 1, 1, 1, 1, 0), -6);
        due(x.status(1), 0);
        due(x.status(16), 19);
        due(x.recipe(20, 4, 60, 1, 4, 0, MOST, 100), 0);
        due(x.recipe(20, 1, 1, 1, 1, 0, 0, 0), -6);
        for (int item = 2; item <= 8; item++) due(x.recipe(item, 1, 1, 1, 1, 20, 4, 0), item - 1);
        due(x.status(1), 8);
        due(x.recipe(9, 1, 1, 1, 1, 0, 0, 0), -7);
        due(x.recipe(8, 1, 1, 1, 1, 0, 0, 0), -6);
        due(x.recipe(9, 1, 1, 9, 1, 0, 0, 0), -6);
        due(x.status(1), 8);
        due(x.status(17), 1);
    }

    private static void builds() {
        fresh(3);
        due(x.build(-1, BELT, 0, 0, 0), -1);
        due(x.build(144, BELT, 0, 0, 0), -1);
        due(x.build(LEAST, 99, 99, 0, 0), -1);
        due(x.build(0, MACHINE, 9, 0, 0), -1);
        due(x.recipe(3, 1, 1, 1, 1, 0, 0, 0), 0);
        due(x.build(0, MACHINE, 0, 1, 0), -1);
        due(x.build(0, MACHINE, 0, -1, 0), -1);
        due(x.build(0, MACHINE, 4, 0, 0), -6);
        due(x.build(0, 0, 0, 0, 0), -6);
        due(x.build(0, 8, 0, 0, 0), -6);
        due(x.build(0, BELT, -1, 0, 0), -6);
        due(x.build(0, BELT, 4, 0, 0), -6);
        due(x.build(0, TUNNEL, 4, 0, 0), -6);
        due(x.build(0, EXIT, -1, 0, 0), -6);
        int[] noOuts = {-1, 0, 1, 2, 4, 8, 15, 16, 19, LEAST | 3};
        for (int side : noOuts) due(x.build(0, SPLITTER, side, 0, 0), -6);
        due(x.build(0, SOURCE, 4, 1, 1), -6);
        due(x.build(0, SOURCE, 0, 0, 1), -6);
        due(x.build(0, SOURCE, 0, 21, 1), -6);
        due(x.build(0, SOURCE, 0, 1, 0), -6);
        due(x.build(0, SOURCE, 0, 1, 61), -6);
        due(x.status(0), 0);
        int[] outs = {3, 5, 6, 7, 9, 10, 11, 12, 13, 14};
        for (int k = 0; k < outs.length; k++) {
            due(x.build(k, SPLITTER, outs[k], MOST, LEAST), 1);
            due(x.part(k, 1), outs[k]);
        }
        due(x.build(143, SINK, MOST, LEAST, MOST), 1);
        due(x.part(143, 1), 0);
        due(x.build(20, SOURCE, 3, 20, 60), 1);
        due(x.part(20, 11), 20);
        due(x.part(20, 12), 60);
        due(x.build(21, MACHINE, 3, 0, 7), 1);
        due(x.part(21, 12), 0);
        due(x.build(22, BELT, 3, 5, 7), 1);
        due(x.part(22, 11), 0);
        due(x.build(22, BELT, 3, 5, 7), -6);
        due(x.build(22, MACHINE, 3, 9, 0), -1);
        due(x.status(0), 14);
    }

    private static void fill(int s, long... elements) {
        for (int i = 0; i < elements.length; i++) due(x.set(s, i, elements[i]), 1);
    }

    private static void buildsFromRows() {
        fresh(4);
        due(x.builds(-1), -1);
        due(x.builds(8), -1);
        due(x.builds(0), -3);
        due(x.take(0, 0, 1, 1), 0);
        due(x.builds(0), -2);
        due(x.row(0, 2, 0), 1);
        due(x.builds(0), 0);
        due(x.row(0, 2, 9), 1);
        due(x.builds(0), -6);
        due(x.row(0, 1, 10), 1);
        fill(0, 0, BELT, 1, 0, 0, 0, SINK, 0, 0, 0);
        due(x.builds(0), -6);
        due(x.status(0), 0);
        fill(0, 0, BELT, 1, 0, 0, 1, MACHINE, 0, 0, 0);
        due(x.builds(0), -6);
        due(x.status(0), 0);
        due(x.part(0, 0), 0);
        fill(0, 0, BELT, 1, 0, 0, 144, BELT, 1, 0, 0);
        due(x.builds(0), -6);
        fill(0, 0, BELT, 1, 0, 0, 1, SOURCE, 2, 3, 4);
        due(x.builds(0), 2);
        due(x.part(1, 11), 3);
        due(x.part(1, 12), 4);
        due(x.builds(0), -6);
        due(x.row(1, 3, 5), 1);
        fill(1, (7L << 32) + 2, (1L << 63) + SINK, 0, 0, 0);
        due(x.builds(1), 1);
        due(x.part(2, 0), SINK);
        due(x.row(1, 0, 5), 1);
        fill(1, 143, BELT, 0, 0, 0);
        due(x.element(1, 0), 143 - 256);
        due(x.builds(1), -6);
        due(x.status(11), 2);
        due(x.status(12), 1);
        due(x.status(13), 1);
        due(x.status(16), 6);
    }

    private static void razes() {
        fresh(5);
        due(x.raze(-1), -1);
        due(x.raze(144), -1);
        due(x.raze(143), 0);
        due(x.build(0, SOURCE, 1, 1, 1), 1);
        due(x.build(1, SINK, 0, 0, 0), 1);
        due(x.tick(2), 2);
        due(x.part(1, 13), 2);
        due(x.raze(1), SINK);
        for (int what = 0; what <= 14; what++) due(x.part(1, what), 0);
        due(x.sunk(1), 2);
        due(x.status(4), 2);
        due(x.status(0), 1);
        due(x.tick(1), 0);
        due(x.status(3), 1);
        due(x.raze(0), SOURCE);
        due(x.status(3), 0);
        due(x.build(1, SINK, 0, 0, 0), 1);
        due(x.part(1, 13), 0);
        due(x.part(1, 9), 3);
    }

    private static void rows() {
        fresh(6);
        due(x.row(-1, 9, -1), -1);
        due(x.row(8, 0, 1), -1);
        due(x.row(0, 9, -1), -4);
        due(x.row(0, 4, 101), -6);
        due(x.row(0, -1, 1), -6);
        due(x.row(0, 0, 101), -7);
        due(x.row(0, 0, LEAST), -4);
        due(x.holds(0), -1);
        due(x.row(7, 3, 100), 1);
        due(x.set(7, 99, 5), 1);
        due(x.row(7, 3, 100), 1);
        due(x.element(7, 99), 0);
        due(x.take(7, 0, 1, 1), 0);
        due(x.row(7, 1, 0), 1);
        due(x.holds(7), 101);
        promise = 7;
        due(x.set(8, 0, 0), -1);
        due(x.set(0, 0, 0), -3);
        due(x.take(0, 0, 1, 1), 0);
        due(x.set(0, -1, 0), -2);
        long[] kept = {-1, -1, -1, -1L};
        long[] highest = {0x80, 0x8000, 0x80000000L, Long.MIN_VALUE};
        long[] lowest = {-128, -32768, LEAST, Long.MIN_VALUE};
        for (int sort = 0; sort < 4; sort++) {
            due(x.row(sort, sort, 2), 1);
            due(x.set(sort, -1, 0), -5);
            due(x.set(sort, 2, 0), -5);
            due(x.set(sort, 1, -1), 1);
            due(x.element(sort, 1), kept[sort]);
            due(x.set(sort, 0, highest[sort]), 1);
            due(x.element(sort, 0), lowest[sort]);
            due(x.element(sort, 1), kept[sort]);
        }
        due(x.set(1, 0, 0x12345678L), 1);
        due(x.element(1, 0), 0x5678);
        due(x.set(2, 0, 0x112345678L), 1);
        due(x.element(2, 0), 0x12345678);
        promise = 9;
        due(x.element(-1, 0), 0);
        due(x.element(8, 0), 0);
        due(x.element(0, -1), 0);
        due(x.element(0, 2), 0);
        due(x.element(7, 0), 0);
        due(x.take(0, 0, 1, 1), 0);
        due(x.element(0, 1), 0);
        due(x.status(15), 8);
        due(x.status(11), 3);
    }

    private static void copies() {
        fresh(8);
        due(x.row(0, 2, 6), 1);
        fill(0, 1, 2, 3, 4, 5, 6);
        due(x.row(1, 2, 3), 1);
        due(x.row(2, 3, 6), 1);
        due(x.take(3, 0, 1, 1), 0);
        due(x.copy(-1, 0, 0, 0, 1), -1);
        due(x.copy(0, 8, 0, 0, 1), -1);
        due(x.copy(0, 3, 0, 0, 1), -2);
        due(x.copy(4, 3, 0, 0, 1), -2);
        due(x.copy(3, 4, 0, 0, 1), -2);
        due(x.copy(0, 2, 0, 0, -1), -2);
        due(x.copy(0, 4, 0, 0, -1), -3);
        due(x.copy(4, 0, 0, 0, -1), -3);
        due(x.copy(0, 1, -1, 0, -1), -4);
        due(x.copy(0, 1, -1, 0, 1), -5);
        due(x.copy(0, 1, 0, -1, 1), -5);
        due(x.copy(0, 1, 0, 0, 4), -5);
        due(x.copy(0, 1, 4, 0, 3), -5);
        due(x.copy(0, 1, 0, 0, MOST), -5);
        due(x.copy(0, 1, MOST, MOST, MOST), -5);
        due(x.copy(0, 1, 7, 0, 0), -5);
        due(x.copy(0, 1, 6, 3, 0), 1);
        due(x.copy(0, 1, 3, 0, 3), 1);
        for (int i = 0; i < 3; i++) due(x.element(1, i), 4 + i);
        due(x.copy(0, 0, 0, 2, 4), 1);
        int[] onward = {1, 2, 1, 2, 3, 4};
        for (int i = 0; i < 6; i++) due(x.element(0, i), onward[i]);
        due(x.copy(0, 0, 2, 0, 4), 1);
        int[] back = {1, 2, 3, 4, 3, 4};
        for (int i = 0; i < 6; i++) due(x.element(0, i), back[i]);
        due(x.status(12), 4);
        due(x.status(13), 2);
        due(x.status(14), 1);
        due(x.status(15), 7);
    }

    private static void shelves() {
        fresh(10);
        due(x.clear(-1), -1);
        due(x.clear(8), -1);
        due(x.clear(0), 0);
        due(x.row(0, 0, 0), 1);
        due(x.clear(0), 1);
        due(x.clear(0), 0);
        due(x.take(0, 0, 1, 1), 0);
        due(x.clear(0), 1);
        due(x.partsIn(0), -3);
        promise = 11;
        due(x.holds(0), -1);
        due(x.holds(-1), -1);
        due(x.holds(8), -1);
        due(x.status(11), 2);
        for (int sort = 0; sort < 4; sort++) {
            due(x.row(sort, sort, 1), 1);
            due(x.holds(sort), 100 + sort);
        }
        due(x.take(3, 0, 1, 1), 0);
        due(x.holds(3), 0);
        promise = 14;
        due(x.partsIn(-1), -1);
        due(x.partsIn(8), -1);
        due(x.partsIn(0), -2);
        due(x.partsIn(7), -3);
        due(x.partsIn(3), 0);
    }

    private static void takes() {
        fresh(12);
        due(x.build(0, SOURCE, 1, 1, 1), 1);
        due(x.build(1, BELT, 1, 0, 0), 1);
        due(x.build(12, SPLITTER, 3, 0, 0), 1);
        due(x.take(-1, 0, 1, 1), -1);
        due(x.take(8, 0, -1, 1), -1);
        due(x.take(0, -1, 1, 1), -1);
        due(x.take(0, 144, -1, 1), -1);
        due(x.take(0, 0, -1, 0), -4);
        due(x.take(0, 0, 0, LEAST), -4);
        due(x.take(0, 0, 0, 1), -6);
        due(x.take(0, 0, 1, 0), -6);
        due(x.take(0, 0, 13, 1), -6);
        due(x.take(0, 1, 12, 1), -6);
        due(x.take(0, 12, 1, 12), -6);
        due(x.take(0, 143, MOST, MOST), -6);
        due(x.holds(0), -1);
        due(x.take(0, 0, 12, 12), 3);
        due(x.partsIn(0), 3);
        due(x.take(0, 0, 1, 2), 2);
        due(x.partsIn(0), 2);
        due(x.tick(3), 0);
        due(x.raze(0), SOURCE);
        due(x.partsIn(0), 2);
        due(x.take(1, 1, 1, 1), 1);
        due(x.put(1, 30, 0), 1);
        due(x.part(1, 2), 1);
        due(x.part(30, 2), 0);
        due(x.part(30, 13), 0);
        due(x.part(30, 9), 3);
    }

    private static void puts() {
        fresh(13);
        due(x.recipe(3, 1, 1, 1, 1, 0, 0, 0), 0);
        // a 3 by 2 piece: a source at (0, 0), a splitter to 0 and 1 at (1, 0), a machine to 2 at (2, 1)
        due(x.build(0, SOURCE, 1, 4, 9), 1);
        due(x.build(1, SPLITTER, 3, 0, 0), 1);
        due(x.build(14, MACHINE, 2, 0, 0), 1);
        due(x.row(1, 0, 1), 1);
        due(x.take(0, 0, 3, 2), 3);
        due(x.put(-1, 0, 0), -1);
        due(x.put(0, 144, 0), -1);
        due(x.put(1, 0, 9), -2);
        due(x.put(2, 0, 9), -3);
        due(x.put(0, 60, 4), -6);
        due(x.put(0, 60, -1), -6);
        due(x.put(0, 70, 0), -6);
        due(x.put(0, 71, 1), -6);
        due(x.put(0, 132, 0), -6);
        due(x.put(0, 120, 1), -6);
        due(x.put(0, 1, 0), -6);
        due(x.status(0), 3);
        // three quarters at (3, 0): (x, y) to (y, 2 - x), sides less one; a bare cell of it may lie on a part
        due(x.build(3, BELT, 2, 0, 0), 1);
        due(x.put(0, 3, 3), 3);
        due(x.part(27, 0), SOURCE);
        due(x.part(27, 1), 0);
        due(x.part(27, 11), 4);
        due(x.part(27, 12), 9);
        due(x.part(15, 0), SPLITTER);
        due(x.part(15, 1), 9);
        due(x.part(4, 0), MACHINE);
        due(x.part(4, 1), 1);
        due(x.part(3, 0), BELT);
        due(x.status(0), 7);
        // one quarter at (6, 0): (x, y) to (1 - y, x)
        due(x.put(0, 6, 1), 3);
        due(x.part(7, 0), SOURCE);
        due(x.part(7, 1), 2);
        due(x.part(19, 1), 6);
        due(x.part(30, 0), MACHINE);
        due(x.part(30, 1), 3);
        // two quarters at (9, 0): (x, y) to (2 - x, 1 - y)
        due(x.put(0, 9, 2), 3);
        due(x.part(23, 0), SOURCE);
        due(x.part(23, 1), 3);
        due(x.part(22, 1), 12);
        due(x.part(9, 0), MACHINE);
        due(x.part(9, 1), 0);
        due(x.put(0, 117, 0), 3);
        due(x.part(131, 0), MACHINE);
        due(x.put(0, 117, 0), -6);
        due(x.status(16), 8);
    }

    private static void ticksOfBelts() {
        fresh(15);
        due(x.tick(0), -6);
        due(x.tick(201), -6);
        due(x.tick(LEAST), -6);
        due(x.status(2), 0);
        // a source each 3 ticks, two belts, a sink: an item comes into being and goes in the same tick
        due(x.build(0, SOURCE, 1, 7, 3), 1);
        due(x.build(1, BELT, 1, 0, 0), 1);
        due(x.build(2, BELT, 2, 0, 0), 1);
        due(x.build(14, SINK, 0, 0, 0), 1);
        due(x.tick(2), 0);
        due(x.part(0, 3), 2);
        due(x.tick(1), 0);
        due(x.part(0, 3), 0);
        due(x.part(0, 2), 0);
        due(x.part(1, 2), 7);
        due(x.tick(1), 0);
        due(x.part(1, 2), 0);
        due(x.part(2, 2), 7);
        due(x.part(2, 9), 3);
        due(x.tick(1), 1);
        due(x.part(14, 9), 0);
        due(x.sunk(7), 1);
        due(x.tick(200), 66);
        due(x.status(2), 205);
        // a full ring of belts doesn't move: who takes must be bare ahead of all moving
        fresh(15);
        due(x.build(0, SOURCE, 1, 1, 1), 1);
        due(x.build(1, BELT, 1, 0, 0), 1);
        due(x.build(2, BELT, 2, 0, 0), 1);
        due(x.build(14, BELT, 3, 0, 0), 1);
        due(x.build(13, BELT, 0, 0, 0), 1);
        due(x.tick(20), 0);
        due(x.status(3), 5);
        due(x.turn(400), 1);
        due(x.turned(4), 1);
        due(x.cellTurn(13, 3), 1);
        // a belt takes from behind and from both of its ways, and not from the side to which it leads
        fresh(15);
        due(x.build(66, BELT, 1, 0, 0), 1);
        due(x.build(67, SOURCE, 3, 1, 1), 1);
        due(x.tick(1), 0);
        due(x.part(66, 2), 0);
        due(x.part(67, 2), 1);
        due(x.build(54, SOURCE, 2, 2, 1), 1);
        due(x.tick(1), 0);
        due(x.part(66, 2), 2);
        due(x.part(66, 9), 0);
        // nothing lies beyond the floor, and a bare cell takes none
        fresh(15);
        due(x.build(11, SOURCE, 1, 1, 1), 1);
        due(x.build(12, SOURCE, 2, 1, 1), 1);
        due(x.tick(5), 0);
        due(x.part(11, 2), 1);
        due(x.part(12, 2), 1);
        due(x.part(12, 14), 0);
    }

    private static void ticksOfSplitters() {
        fresh(15);
        // a source each tick, a splitter to 0, 1, 2: it begins behind 3
        due(x.build(65, SOURCE, 1, 1, 1), 1);
        due(x.build(66, SPLITTER, 7, 0, 0), 1);
        due(x.build(54, SINK, 0, 0, 0), 1);
        due(x.build(67, SINK, 0, 0, 0), 1);
        due(x.build(78, SINK, 0, 0, 0), 1);
        due(x.tick(1), 0);
        due(x.part(66, 2), 1);
        due(x.part(66, 10), 3);
        due(x.tick(1), 1);
        due(x.part(66, 10), 0);
        due(x.part(54, 13), 1);
        due(x.tick(2), 1);
        due(x.part(66, 10), 1);
        due(x.tick(2), 1);
        due(x.part(66, 10), 2);
        due(x.tick(2), 1);
        due(x.part(66, 10), 0);
        due(x.part(54, 13), 2);
        due(x.part(67, 13), 1);
        due(x.part(78, 13), 1);
        due(x.part(66, 14), 4);
        due(x.part(66, 13), 4);
        // one whose cell doesn't take is left out
        due(x.raze(67), SINK);
        due(x.tick(2), 1);
        due(x.part(66, 10), 2);
        // it doesn't take from one of its outs
        fresh(15);
        due(x.build(66, SPLITTER, 3, 0, 0), 1);
        due(x.build(67, SOURCE, 3, 1, 1), 1);
        due(x.tick(3), 0);
        due(x.part(66, 13), 0);
        due(x.build(78, SOURCE, 0, 2, 1), 1);
        due(x.tick(1), 0);
        due(x.part(66, 2), 2);
        due(x.part(66, 9), 2);
    }

    private static void ticksOfTunnels() {
        fresh(15);
        // the exit is five on: belts between don't count, nor does an exit of another side
        due(x.build(0, SOURCE, 1, 1, 1), 1);
        due(x.build(1, TUNNEL, 1, 0, 0), 1);
        due(x.build(2, BELT, 1, 0, 0), 1);
        due(x.build(3, EXIT, 2, 0, 0), 1);
        due(x.build(6, EXIT, 1, 0, 0), 1);
        due(x.tick(1), 0);
        due(x.part(1, 2), 1);
        due(x.tick(1), 0);
        due(x.part(6, 2), 1);
        due(x.part(6, 9), 3);
        due(x.part(3, 2), 0);
        due(x.part(2, 2), 0);
        // an exit takes from no belt
        due(x.build(5, SOURCE, 1, 2, 1), 1);
        due(x.build(7, SINK, 0, 0, 0), 1);
        due(x.tick(3), 2);
        due(x.sunk(2), 0);
        due(x.part(5, 2), 2);
        // the nearest exit counts, full or not; another tunnel nearer to it goes first
        fresh(15);
        due(x.build(12, SOURCE, 1, 1, 1), 1);
        due(x.build(13, TUNNEL, 1, 0, 0), 1);
        due(x.build(3, SOURCE, 2, 2, 1), 1);
        due(x.build(15, TUNNEL, 1, 0, 0), 1);
        due(x.build(16, EXIT, 1, 0, 0), 1);
        due(x.build(17, EXIT, 1, 0, 0), 1);
        due(x.build(4, SINK, 0, 0, 0), 1);
        due(x.tick(2), 0);
        due(x.part(16, 2), 2);
        due(x.part(13, 2), 1);
        due(x.tick(10), 0);
        due(x.part(17, 13), 0);
        due(x.part(16, 13), 1);
        due(x.part(13, 14), 0);
        // six on is too far
        fresh(15);
        due(x.build(0, SOURCE, 1, 1, 1), 1);
        due(x.build(1, TUNNEL, 1, 0, 0), 1);
        due(x.build(7, EXIT, 1, 0, 0), 1);
        due(x.tick(5), 0);
        due(x.part(7, 13), 0);
        due(x.part(1, 2), 1);
    }

    private static void ticksOfMachines() {
        fresh(15);
        // makes 3 of item 5 from 2 of item 1 in 2 ticks
        due(x.recipe(5, 3, 2, 1, 2, 0, 0, 9), 0);
        due(x.build(0, SOURCE, 1, 1, 1), 1);
        due(x.build(1, MACHINE, 1, 0, 0), 1);
        due(x.tick(2), 0);
        due(x.part(1, 7), 2);
        due(x.part(1, 6), 0);
        due(x.tick(1), 0);
        due(x.part(1, 6), 1);
        due(x.part(1, 5), 0);
        due(x.part(1, 7), 1);
        due(x.tick(1), 0);
        due(x.part(1, 5), 1);
        due(x.part(1, 2), 0);
        // it ends, and since 3 made is no more than 3, begins again in the same tick
        due(x.tick(1), 0);
        due(x.part(1, 4), 3);
        due(x.part(1, 2), 5);
        due(x.part(1, 6), 1);
        due(x.part(1, 5), 0);
        due(x.tick(2), 0);
        due(x.part(1, 4), 6);
        due(x.part(1, 6), 0);
        // its store is full at twice what it needs
        due(x.tick(10), 0);
        due(x.part(1, 7), 4);
        due(x.part(1, 4), 6);
        due(x.part(0, 2), 1);
        due(x.status(3), 11);
        // one away each tick: begins again when no more than 3 are left, which is ahead of the moving
        due(x.build(2, SINK, 0, 0, 0), 1);
        due(x.tick(3), 3);
        due(x.part(1, 4), 3);
        due(x.part(1, 6), 0);
        due(x.tick(1), 1);
        due(x.part(1, 4), 2);
        due(x.part(1, 6), 1);
        due(x.part(1, 7), 3);
        due(x.sunk(5), 4);
        // a machine takes what it needs alone, and not from the side to which it leads
        fresh(15);
        due(x.recipe(5, 1, 1, 1, 1, 2, 2, 0), 0);
        due(x.build(66, MACHINE, 1, 0, 0), 1);
        due(x.build(67, SOURCE, 3, 1, 1), 1);
        due(x.build(65, SOURCE, 1, 3, 1), 1);
        due(x.tick(4), 0);
        due(x.part(66, 13), 0);
        due(x.build(54, SOURCE, 2, 2, 1), 1);
        due(x.tick(6), 0);
        due(x.part(66, 7), 0);
        due(x.part(66, 8), 4);
        due(x.build(78, SOURCE, 0, 1, 1), 1);
        due(x.tick(2), 0);
        due(x.part(66, 6), 1);
        due(x.part(66, 8), 3);
    }

    private static void ticksOfTakers() {
        fresh(15);
        // three sources to one sink: one each tick, going round behind the side it took from last
        due(x.build(66, SINK, 0, 0, 0), 1);
        due(x.build(65, SOURCE, 1, 3, 1), 1);
        due(x.build(54, SOURCE, 2, 1, 1), 1);
        due(x.build(67, SOURCE, 3, 2, 1), 1);
        due(x.tick(1), 1);
        due(x.part(66, 9), 0);
        due(x.sunk(1), 1);
        due(x.tick(1), 1);
        due(x.part(66, 9), 1);
        due(x.sunk(2), 1);
        due(x.tick(1), 1);
        due(x.part(66, 9), 3);
        due(x.sunk(3), 1);
        due(x.tick(3), 3);
        due(x.part(66, 13), 6);
        due(x.sunk(1), 2);
        promise = 20;
        due(x.sunk(0), 0);
        due(x.sunk(21), 0);
        due(x.sunk(-1), 0);
        due(x.sunk(20), 0);
    }

    private static void ticksAreLimited() {
        fresh(15);
        for (int k = 0; k < 99; k++) due(x.tick(200), 0);
        due(x.tick(199), 0);
        due(x.tick(2), -7);
        due(x.status(2), 19999);
        due(x.tick(201), -6);
        due(x.tick(1), 0);
        due(x.tick(1), -7);
        due(x.status(2), 20000);
        due(x.status(17), 2);
        due(x.turn(400), 1);
    }

    private static void turns() {
        fresh(16);
        due(x.turn(0), -6);
        due(x.turn(401), -6);
        due(x.turn(LEAST), -6);
        // a source each 3 ticks, a belt, a sink: the first item is on the belt behind 3 ticks, TOOK stays 3
        due(x.build(0, SOURCE, 1, 1, 3), 1);
        due(x.build(1, BELT, 1, 0, 0), 1);
        due(x.build(2, SINK, 0, 0, 0), 1);
        due(x.turn(3), 0);
        due(x.turned(1), -1);
        due(x.cellTurn(0, 0), -1);
        due(x.turn(4), 3);
        promise = 17;
        due(x.turned(0), 1);
        due(x.turned(1), 3);
        due(x.turned(2), 1);
        due(x.turned(3), 0);
        due(x.turned(4), 0);
        due(x.turned(5), -1);
        due(x.turned(-1), -1);
        due(x.turn(0), -6);
        due(x.turned(0), 1);
        due(x.status(2), 0);
        due(x.status(4), 0);
        due(x.part(1, 13), 0);
        due(x.part(0, 3), 0);
        promise = 18;
        due(x.cellTurn(0, 0), 0);
        due(x.cellTurn(0, 1), 1);
        due(x.cellTurn(1, 0), 1);
        due(x.cellTurn(1, 1), 1);
        due(x.cellTurn(1, 2), 0);
        due(x.cellTurn(1, 3), 0);
        due(x.cellTurn(1, 4), 0);
        due(x.cellTurn(2, 0), 1);
        due(x.cellTurn(2, 1), 0);
        due(x.cellTurn(2, 5), -1);
        due(x.cellTurn(2, -1), -1);
        due(x.cellTurn(3, 0), -1);
        due(x.cellTurn(-1, 0), -1);
        due(x.cellTurn(144, 0), -1);
        // a part that has gone since still tells of its turn
        due(x.raze(1), BELT);
        due(x.cellTurn(1, 0), 1);
        due(x.turned(1), 3);
        due(x.build(5, SINK, 0, 0, 0), 1);
        due(x.cellTurn(5, 0), -1);
        // without its belt the source is stuck behind 3 ticks
        due(x.turn(4), 1);
        due(x.turned(0), 3);
        due(x.turned(4), 1);
        due(x.cellTurn(0, 3), 1);
        due(x.cellTurn(1, 0), -1);
        due(x.turn(3), 0);
        due(x.turned(4), -1);
        // 59 and 60 ticks come together again in 60 x 59 alone
        fresh(16);
        due(x.build(0, SOURCE, 1, 1, 60), 1);
        due(x.build(1, SINK, 0, 0, 0), 1);
        due(x.build(12, SOURCE, 1, 1, 59), 1);
        due(x.build(13, SINK, 0, 0, 0), 1);
        due(x.turn(400), 0);
        due(x.raze(12), SOURCE);
        due(x.turn(59), 0);
        due(x.turn(60), 60);
        due(x.turned(0), 0);
        due(x.build(12, SOURCE, 1, 1, 50), 1);
        due(x.turn(299), 0);
        due(x.turn(300), 300);
        due(x.turned(2), 11);
        due(x.cellTurn(12, 1), 6);
    }

    private static void turnsOfMachines() {
        fresh(17);
        // one item each 4 ticks, work of 2: it works at the end of 2 ticks of 4
        due(x.recipe(3, 1, 2, 1, 1, 0, 0, 5), 0);
        due(x.recipe(4, 2, 1, 3, 1, 2, 1, 50), 1);
        due(x.build(0, SOURCE, 1, 1, 4), 1);
        due(x.build(1, MACHINE, 1, 0, 0), 1);
        due(x.build(2, SINK, 0, 0, 0), 1);
        due(x.build(12, SOURCE, 1, 1, 4), 1);
        due(x.build(13, MACHINE, 1, 0, 0), 1);
        due(x.build(14, SINK, 0, 0, 0), 1);
        due(x.build(30, MACHINE, 1, 1, 0), 1);
        due(x.turn(100), 4);
        due(x.turned(2), 2);
        due(x.turned(3), 10);
        due(x.turned(4), 0);
        promise = 18;
        due(x.cellTurn(1, 0), 1);
        due(x.cellTurn(1, 1), 1);
        due(x.cellTurn(1, 2), 1);
        due(x.cellTurn(1, 3), 0);
        due(x.cellTurn(1, 4), 0);
        due(x.cellTurn(30, 3), 0);
        due(x.cellTurn(30, 4), 1);
        due(x.cellTurn(0, 4), 0);
        due(x.cellTurn(2, 4), 0);
        // without its sink a machine is stuck with more made than it makes, and so it isn't starved
        due(x.raze(2), SINK);
        due(x.raze(12), SOURCE);
        due(x.turn(400), 1);
        due(x.turned(4), 1);
        due(x.turned(3), 0);
        due(x.cellTurn(1, 3), 1);
        due(x.cellTurn(1, 4), 0);
        due(x.cellTurn(13, 3), 0);
        due(x.cellTurn(13, 4), 1);
        due(x.part(1, 4), 0);
        // with what it makes and no more it is stuck and starved
        due(x.tick(200), 0);
        due(x.raze(0), SOURCE);
        due(x.part(1, 4), 2);
        due(x.part(1, 7), 2);
        due(x.build(2, BELT, 1, 0, 0), 1);
        due(x.tick(1), 0);
        due(x.part(1, 4), 1);
        due(x.tick(6), 0);
        due(x.part(1, 4), 2);
        due(x.part(1, 7), 1);
        due(x.raze(1), MACHINE);
        due(x.build(1, MACHINE, 0, 0, 0), 1);
        due(x.build(0, SOURCE, 1, 1, 60), 1);
        due(x.tick(60), 0);
        due(x.raze(0), SOURCE);
        due(x.turn(100), 1);
        due(x.turned(0), 3);
        due(x.cellTurn(1, 3), 1);
        due(x.cellTurn(1, 4), 1);
        // work in a turn without moving: it can't come again, so such a turn is still
        due(x.turned(4), 1);
    }

    /** A machine that works, looked at by turn() in the midst of it, razed and built anew. */
    private static void turnsAmidWork() {
        fresh(16);
        due(x.recipe(3, 4, 5, 1, 1, 0, 0, 7), 0);
        due(x.build(0, SOURCE, 1, 1, 1), 1);
        due(x.build(1, MACHINE, 1, 0, 0), 1);
        due(x.tick(4), 0);
        due(x.part(1, 5), 2);
        due(x.raze(0), SOURCE);
        due(x.part(1, 7), 2);
        // ends at ticks 3 and 8 from here; 8 made are more than 4, so the third item lies in its store
        due(x.turn(8), 0);
        due(x.turn(9), 1);
        due(x.turned(0), 8);
        due(x.part(1, 5), 2);
        due(x.part(1, 6), 1);
        due(x.raze(1), MACHINE);
        due(x.part(1, 5), 0);
        due(x.part(1, 6), 0);
        due(x.part(1, 7), 0);
        due(x.build(1, MACHINE, 1, 0, 0), 1);
        for (int what = 2; what <= 8; what++) due(x.part(1, what), 0);
        due(x.tick(6), 0);
        due(x.part(1, 4), 0);
        // it begins with 4, ends 3 ticks on, and gives one each tick: MADE is never 0 at an end, and yet it isn't stuck
        fresh(18);
        due(x.recipe(3, 4, 3, 1, 1, 0, 0, 7), 0);
        due(x.build(0, SOURCE, 1, 1, 1), 1);
        due(x.build(1, MACHINE, 1, 0, 0), 1);
        due(x.tick(12), 0);
        due(x.part(1, 4), 8);
        due(x.build(2, SINK, 0, 0, 0), 1);
        due(x.turn(100), 4);
        due(x.turned(2), 4);
        due(x.turned(3), 7);
        due(x.cellTurn(1, 1), 4);
        due(x.cellTurn(1, 2), 1);
        due(x.cellTurn(1, 3), 0);
        due(x.cellTurn(1, 4), 0);
        due(x.cellTurn(0, 3), 0);
    }

    private static void parts() {
        fresh(19);
        due(x.part(-1, 0), -1);
        due(x.part(144, 0), -1);
        due(x.part(0, -1), -1);
        due(x.part(0, 15), -1);
        due(x.part(0, 14), 0);
        due(x.recipe(6, 2, 2, 1, 1, 2, 2, 3), 0);
        due(x.build(0, MACHINE, 2, 0, 5), 1);
        due(x.build(1, TUNNEL, 2, 9, 9), 1);
        due(x.build(2, EXIT, 2, 9, 9), 1);
        due(x.build(3, SPLITTER, 7, 9, 9), 1);
        due(x.build(4, SOURCE, 2, 9, 8), 1);
        due(x.build(5, SINK, 2, 9, 9), 1);
        int[][] told = {
            {6, 2, 0, 0, 0, 0, 0, 0, 0, 3, 3, 0, 0, 0, 0},
            {2, 2, 0, 0, 0, 0, 0, 0, 0, 3, 3, 0, 0, 0, 0},
            {3, 2, 0, 0, 0, 0, 0, 0, 0, 3, 3, 0, 0, 0, 0},
            {4, 7, 0, 0, 0, 0, 0, 0, 0, 3, 3, 0, 0, 0, 0},
            {5, 2, 0, 0, 0, 0, 0, 0, 0, 3, 3, 9, 8, 0, 0},
            {7, 0, 0, 0, 0, 0, 0, 0, 0, 3, 3, 0, 0, 0, 0},
        };
        for (int cell = 0; cell < told.length; cell++) {
            for (int what = 0; what <= 14; what++) due(x.part(cell, what), told[cell][what]);
        }
        due(x.status(11), 0);
        due(x.recipe(7, 1, 1, 6, 1, 0, 0, 0), 1);
        due(x.build(6, MACHINE, 1, 1, 0), 1);
        due(x.part(6, 11), 1);
    }

    private static void wishes() {
        fresh(21);
        // 3 of item 10 are made from 1 of item 11 and 2 of item 12; 2 of 11 from 3 of 12; 1 of 12 from 1 of item 1
        due(x.recipe(12, 1, 1, 1, 1, 0, 0, 0), 0);
        due(x.recipe(10, 3, 10, 11, 1, 12, 2, 0), 1);
        due(x.recipe(11, 2, 60, 12, 3, 0, 0, 0), 2);
        due(x.machines(0), 0);
        due(x.rate(10, false), 0);
        due(x.rate(10, true), 1);
        // 1/2 of 10: 1/6 runs, 5/3 machines: 2; 1/6 of 11: 1/12 runs, 5 machines; 12: 1/3 + 1/4 = 7/12: 1 machine
        due(x.wish(10, 1, 2), 8);
        due(x.machines(1), 2);
        due(x.machines(2), 5);
        due(x.machines(0), 1);
        due(x.machines(3), 0);
        due(x.machines(-1), 0);
        due(x.machines(8), 0);
        due(x.machines(LEAST), 0);
        promise = 23;
        due(x.rate(10, false), 1);
        due(x.rate(10, true), 2);
        due(x.rate(11, false), 1);
        due(x.rate(11, true), 6);
        due(x.rate(12, false), 7);
        due(x.rate(12, true), 12);
        due(x.rate(1, false), 7);
        due(x.rate(1, true), 12);
        due(x.rate(2, false), 0);
        due(x.rate(2, true), 1);
        due(x.rate(0, false), 0);
        due(x.rate(0, true), 1);
        due(x.rate(21, false), 0);
        due(x.rate(LEAST, true), 1);
        due(x.status(11), 0);
        // another wish takes its place: 60 of 11, 30 runs, 1800 machines; 90 of 12
        due(x.wish(11, 60, 1), 1890);
        due(x.machines(1), 0);
        due(x.machines(2), 1800);
        due(x.machines(0), 90);
        due(x.rate(10, false), 0);
        due(x.rate(10, true), 1);
        due(x.rate(12, false), 90);
        due(x.rate(12, true), 1);
        // no wish changes for a recipe that comes later
        due(x.recipe(1, 1, 1, 2, 1, 0, 0, 0), 3);
        due(x.machines(3), 0);
        due(x.rate(2, false), 0);
        due(x.wish(11, 60, 60), 34);
        due(x.machines(3), 2);
        due(x.rate(2, false), 3);
        due(x.rate(2, true), 2);
        // eight in a chain, each of 4 and 4, makes 1: the greatest numbers that there are
        fresh(21);
        for (int item = 1; item <= 8; item++) due(x.recipe(item, 1, 60, item + 1, 4, item + 2, 4, 0), item - 1);
        long[] wanted = {60, 240, 1200, 5760, 27840, 134400, 648960, 3133440};
        long all = 0;
        for (long each : wanted) all += 60 * each;
        due(x.wish(1, 60, 1), all);
        for (int r = 0; r < 8; r++) due(x.machines(r), 60 * wanted[r]);
        due(x.rate(9, false), 15129600);
        due(x.rate(10, false), 12533760);
        due(x.rate(10, true), 1);
        // eight in a chain, each of 1, makes 4: the least
        fresh(21);
        for (int item = 1; item <= 8; item++) due(x.recipe(item, 4, 1, item + 1, 1, 0, 0, 0), item - 1);
        due(x.wish(1, 1, 60), 8);
        due(x.rate(9, false), 1);
        due(x.rate(9, true), 3932160);
    }

    private static void wishesRefused() {
        fresh(21);
        due(x.recipe(1, 1, 1, 2, 1, 9, 1, 0), 0);
        due(x.recipe(2, 1, 1, 3, 1, 0, 0, 0), 1);
        due(x.wish(2, 2, 1), 2);
        due(x.wish(0, 1, 1), -6);
        due(x.wish(21, 1, 1), -6);
        due(x.wish(3, 1, 1), -6);
        due(x.wish(1, 0, 1), -6);
        due(x.wish(1, 61, 1), -6);
        due(x.wish(1, 1, 0), -6);
        due(x.wish(1, 1, 61), -6);
        due(x.wish(1, 1, LEAST), -6);
        due(x.wish(1, 1, 1), 2);
        due(x.recipe(3, 1, 1, 2, 1, 0, 0, 0), 2);
        due(x.wish(1, 1, 1), -6);
        due(x.wish(2, 1, 1), -6);
        due(x.wish(3, 1, 1), -6);
        due(x.rate(9, false), 1);
        due(x.machines(1), 1);
        due(x.machines(2), 0);
        due(x.recipe(4, 1, 1, 5, 1, 6, 1, 0), 3);
        due(x.recipe(5, 1, 1, 6, 1, 0, 0, 0), 4);
        due(x.wish(4, 1, 1), 2);
        due(x.rate(6, false), 2);
        due(x.status(16), 11);
    }

    private static void ways() {
        fresh(24);
        due(x.build(0, SOURCE, 1, 1, 1), 1);
        due(x.build(1, BELT, 1, 0, 0), 1);
        due(x.build(3, SINK, 0, 0, 0), 1);
        due(x.build(36, TUNNEL, 1, 0, 0), 1);
        due(x.build(60, EXIT, 1, 0, 0), 1);
        due(x.path(-1, 0), -1);
        due(x.path(0, 144), -1);
        due(x.path(0, 0), -1);
        due(x.path(1, 1), -1);
        due(x.path(0, 2), -1);
        due(x.path(2, 1), -1);
        due(x.path(36, 3), -1);
        due(x.path(3, 1), -1);
        due(x.path(1, 60), -1);
        due(x.path(1, 0), -1);
        due(x.status(11), 0);
        due(x.path(0, 1), 0);
        due(x.path(1, 3), 1);
        due(x.path(0, 3), -1);
        // an exit at 60 to the tunnel at 36, which leads to side 1: over 61, 49, 48 comes in from below
        due(x.path(60, 36), 3);
        // a belt to a belt that leads back to it
        due(x.build(130, BELT, 1, 0, 0), 1);
        due(x.build(131, BELT, 3, 0, 0), 1);
        due(x.path(130, 131), -1);
        due(x.path(131, 130), -1);
        // a splitter goes round by its other side: 118, 119 and down on 131
        due(x.raze(130), BELT);
        due(x.build(130, SPLITTER, 3, 0, 0), 1);
        due(x.path(130, 131), 2);
        // two splitters that lead to one another: over 118, 117, 129, 141, 142, 143; over 119, 118, 117, 129
        due(x.raze(131), BELT);
        due(x.build(131, SPLITTER, 9, 0, 0), 1);
        due(x.path(130, 131), 6);
        due(x.path(131, 130), 4);
        // the cell before from must be bare
        due(x.build(118, SINK, 0, 0, 0), 1);
        due(x.path(130, 3), -1);
        due(x.path(130, 118), 0);
        // from the border on, beyond the floor
        due(x.build(143, BELT, 1, 0, 0), 1);
        due(x.path(143, 3), -1);
    }

    private static void waysLaid() {
        fresh(25);
        due(x.build(65, SOURCE, 0, 1, 1), 1);
        due(x.build(78, SINK, 0, 0, 0), 1);
        due(x.lay(-1, 78), -1);
        due(x.lay(65, 144), -1);
        due(x.lay(65, 65), -6);
        due(x.lay(78, 65), -6);
        due(x.lay(65, 0), -6);
        due(x.status(11), 2);
        due(x.status(16), 3);
        // from 65 up to 53, then 54, 66, down on 78
        due(x.path(65, 78), 3);
        due(x.lay(65, 78), 3);
        due(x.part(53, 1), 1);
        due(x.part(54, 1), 2);
        due(x.part(66, 1), 2);
        due(x.part(53, 0), BELT);
        due(x.part(53, 9), 3);
        due(x.status(0), 5);
        due(x.tick(10), 4);
        due(x.lay(65, 78), -6);
        due(x.lay(65, 53), 0);
        due(x.status(0), 5);
        // of several the least sides: first up twice, then to the right
        fresh(25);
        due(x.build(26, SINK, 0, 0, 0), 1);
        due(x.build(48, MACHINE, 0, 0, 0), -1);
        due(x.build(48, SPLITTER, 3, 0, 0), 1);
        due(x.lay(48, 26), 3);
        due(x.part(36, 1), 0);
        due(x.part(24, 1), 1);
        due(x.part(25, 1), 1);
        due(x.part(49, 0), 0);
        // the least first side counts ahead of all later ones, but a longer way doesn't
        fresh(25);
        due(x.build(66, SPLITTER, 5, 0, 0), 1);
        due(x.build(91, SINK, 0, 0, 0), 1);
        due(x.path(66, 91), 2);
        due(x.lay(66, 91), 2);
        due(x.part(78, 1), 1);
        due(x.part(79, 1), 2);
        due(x.part(54, 0), 0);
        // a machine is entered on a side to which it doesn't lead
        fresh(25);
        due(x.recipe(3, 1, 1, 1, 1, 0, 0, 0), 0);
        due(x.build(66, MACHINE, 3, 0, 0), 1);
        due(x.build(64, SOURCE, 1, 1, 1), 1);
        due(x.lay(64, 66), 3);
        due(x.part(65, 1), 0);
        due(x.part(53, 1), 1);
        due(x.part(54, 1), 2);
    }

    private static void status() {
        fresh(26);
        due(x.status(-1), -1);
        due(x.status(5), -1);
        due(x.status(10), -1);
        due(x.status(18), -1);
        due(x.status(LEAST), -1);
        due(x.recipe(3, 2, 5, 1, 1, 2, 1, 0), 0);
        due(x.build(0, SOURCE, 1, 1, 1), 1);
        due(x.build(1, MACHINE, 1, 0, 0), 1);
        due(x.build(13, SOURCE, 0, 2, 1), 1);
        due(x.status(0), 3);
        due(x.status(1), 1);
        due(x.tick(4), 0);
        due(x.status(2), 4);
        // taken: item 1 at tick 1, item 2 at tick 2 (one each tick, going round); what it works on isn't counted
        due(x.part(1, 6), 1);
        due(x.status(3), x.part(1, 7) + x.part(1, 8) + (x.part(0, 2) > 0 ? 1 : 0) + (x.part(13, 2) > 0 ? 1 : 0));
        due(x.status(3), 3);
        due(x.tick(60), 0);
        // both stores full, 4 made, both sources with an item
        due(x.status(3), 10);
        due(x.status(4), 0);
        due(x.raze(200), -1);
        due(x.take(0, 0, 13, 1), -6);
        due(x.partsIn(0), -3);
        due(x.row(0, 0, 101), -7);
        due(x.row(0, 0, -1), -4);
        due(x.row(0, 0, 1), 1);
        due(x.partsIn(0), -2);
        due(x.set(0, 1, 0), -5);
        for (int number = 11; number <= 17; number++) due(x.status(number), 1);
    }
}
