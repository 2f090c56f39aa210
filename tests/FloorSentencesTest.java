/** The document's "1. THE FLOOR", sentence by sentence. */
public final class FloorSentencesTest extends Checks {
    public static void main(String[] args) {
        runAll(FloorSentencesTest.class);
    }

    @Says(in = "1. THE FLOOR", words = "CELLS 0 to 143:")
    static void theFirstAndTheLastCellAreThere() {
        due(x.build(0, BELT, UP, 0, 0), 1);
        due(x.build(143, BELT, UP, 0, 0), 1);
        refused(-1, () -> x.build(-1, BELT, UP, 0, 0));
        refused(-1, () -> x.build(144, BELT, UP, 0, 0));
        for (int odd : ODD) refused(-1, () -> x.build(odd, BELT, UP, 0, 0));
        due(x.status(0), 2);
    }

    @Says(in = "1. THE FLOOR", words = "CELLS 0 to 143:")
    static void everyCellTakesAndGives() {
        for (int cell = 0; cell < 144; cell++) {
            fresh();
            int along = cell % 12 == 0 ? RIGHT : LEFT;
            int across = cell < 12 ? DOWN : UP;
            source(away(cell, along, 1), opposite(along), 4, 1);
            belt(cell, across);
            sink(away(cell, across, 1));
            due(x.tick(1), 0);
            tells(cell, 2, 4, 9, along);
            due(x.tick(1), 1);
            tells(cell, 2, 0, 14, 1);
            due(x.turn(400), 2);
            for (int what = 0; what <= 3; what++) due(x.cellTurn(cell, what), what < 2 ? 1 : 0);
            due(x.raze(away(cell, across, 1)), SINK);
            due(x.turn(400), 1);
            due(x.cellTurn(cell, 3), 1);
        }
    }

    @Says(in = "1. THE FLOOR", words = "CELLS 0 to 143:")
    static void everyCellMayBeASinkOrAMachine() {
        for (int cell = 0; cell < 144; cell++) {
            fresh();
            due(x.recipe(3, 1, 1, 4, 1, 0, 0, 50), 0);
            int along = cell % 12 == 0 ? RIGHT : LEFT;
            int across = cell < 12 ? DOWN : UP;
            source(away(cell, along, 1), opposite(along), 4, 1);
            sink(cell);
            due(x.tick(3), 3);
            due(x.part(cell, 13), 3);
            due(x.raze(cell), SINK);
            machine(cell, across, 0);
            due(x.turn(400), 1);
            due(x.cellTurn(cell, 3), 1);
            sink(away(cell, across, 1));
            due(x.turn(400), 1);
            due(x.turned(3), 50);
            due(x.cellTurn(cell, 2), 1);
        }
    }

    @Says(in = "1. THE FLOOR", words = "12 times y and x, x and y 0 to 11.")
    static void aRowEndsAtItsTwelfthCell() {
        for (int row = 0; row < 12; row++) {
            source(at(11, row), RIGHT, 1, 1);
            sink(at(0, row));
        }
        due(x.tick(5), 0);
        fresh();
        for (int row = 0; row < 12; row++) {
            source(at(0, row), LEFT, 1, 1);
            sink(at(11, row));
        }
        due(x.tick(5), 0);
    }

    @Says(in = "1. THE FLOOR", words = "12 times y and x, x and y 0 to 11.")
    static void aColumnEndsAtItsTwelfthCell() {
        for (int column = 0; column < 12; column++) {
            source(at(column, 0), UP, 1, 1);
            sink(at(column, 11));
        }
        due(x.tick(5), 0);
        fresh();
        for (int column = 0; column < 12; column++) {
            source(at(column, 11), DOWN, 1, 1);
            sink(at(column, 0));
        }
        due(x.tick(5), 0);
    }

    @Says(in = "1. THE FLOOR", words = "SIDES: 0 (y - 1), 1 (x + 1), 2 (y + 1), 3 (x - 1).")
    static void eachSideLeadsToItsNeighbour() {
        int[] neighbours = {66 - 12, 66 + 1, 66 + 12, 66 - 1};
        for (int side = 0; side < 4; side++) {
            fresh();
            source(66, side, 1, 1);
            for (int around : new int[] {53, 54, 55, 65, 67, 77, 78, 79}) sink(around);
            due(x.tick(1), 1);
            due(x.part(neighbours[side], 13), 1);
        }
    }

    @Says(in = "1. THE FLOOR", words = "A CELL is BARE, or has one PART.")
    static void aCellHasOnePartAtMost() {
        due(x.part(70, 0), 0);
        belt(70, RIGHT);
        for (int kind = BELT; kind <= SINK; kind++) {
            int other = kind;
            if (kind != MACHINE) refused(-6, () -> x.build(70, other, 3, 1, 1));
        }
        tells(70, 0, BELT, 1, RIGHT);
        due(x.raze(70), BELT);
        sink(70);
        due(x.status(0), 1);
    }

    @Says(in = "1. THE FLOOR", words = "ITEMS are 1 to 20.")
    static void theLeastAndTheGreatestItemAreThere() {
        source(0, RIGHT, 1, 1);
        source(12, RIGHT, 20, 1);
        sink(1);
        sink(13);
        refused(-6, () -> x.build(24, SOURCE, RIGHT, 0, 1));
        refused(-6, () -> x.build(24, SOURCE, RIGHT, 21, 1));
        refused(-6, () -> x.build(24, SOURCE, RIGHT, -1, 1));
        for (int odd : ODD) refused(-6, () -> x.build(24, SOURCE, RIGHT, odd, 1));
        due(x.tick(3), 6);
        due(x.sunk(1), 3);
        due(x.sunk(20), 3);
        for (int item = 2; item < 20; item++) due(x.sunk(item), 0);
    }

    @Says(in = "1. THE FLOOR", words = {"KINDS of PARTS: 1 BELT, 2 TUNNEL, 3 EXIT", "4 SPLITTER", "5 SOURCE", "6 MACHINE",
        "7 SINK"})
    static void thereAreSevenKinds() {
        due(x.recipe(3, 1, 1, 1, 1, 0, 0, 0), 0);
        int[] args = {0, 0, 0, 0, 0, 1, 0, 0};
        for (int kind = 1; kind <= 7; kind++) {
            due(x.build(kind, kind, 3, args[kind], 1), 1);
            due(x.part(kind, 0), kind);
        }
        refused(-6, () -> x.build(20, 0, 3, 1, 1));
        refused(-6, () -> x.build(20, 8, 3, 1, 1));
        refused(-6, () -> x.build(20, -1, 3, 1, 1));
        for (int odd : ODD) refused(-6, () -> x.build(20, odd, 3, 1, 1));
        due(x.status(0), 7);
    }

    @Says(in = "1. THE FLOOR", words = "(these LEAD to one SIDE)")
    static void beltsTunnelsAndExitsLeadToOneSide() {
        for (int kind = BELT; kind <= EXIT; kind++) {
            int k = kind;
            for (int side = 0; side < 4; side++) {
                due(x.build(12 * kind + side, kind, side, 0, 0), 1);
                due(x.part(12 * kind + side, 1), side);
            }
            refused(-6, () -> x.build(100, k, -1, 0, 0));
            refused(-6, () -> x.build(100, k, 4, 0, 0));
            for (int odd : ODD) refused(-6, () -> x.build(100, k, odd, 0, 0));
        }
        due(x.status(0), 12);
    }

    @Says(in = "1. THE FLOOR", words = "(leads to its OUTS, two or three SIDES)")
    static void aSplitterHasTwoOrThreeOuts() {
        int[] twoOrThree = {3, 5, 6, 7, 9, 10, 11, 12, 13, 14};
        for (int k = 0; k < twoOrThree.length; k++) {
            splitter(k, twoOrThree[k]);
            due(x.part(k, 1), twoOrThree[k]);
        }
        for (int outs : new int[] {0, 1, 2, 4, 8}) refused(-6, () -> x.build(100, SPLITTER, outs, 0, 0));
        refused(-6, () -> x.build(100, SPLITTER, 15, 0, 0));
        for (int outs : new int[] {-1, 16, 17, 18, 19, 48, -13}) refused(-6, () -> x.build(100, SPLITTER, outs, 0, 0));
        for (int odd : ODD) refused(-6, () -> x.build(100, SPLITTER, odd, 0, 0));
        due(x.status(0), 10);
    }

    @Says(in = "1. THE FLOOR", words = "(of an ITEM, each PERIOD, 1 to 60; leads to a SIDE)")
    static void aSourceHasAPeriodOfOneToSixty() {
        source(0, RIGHT, 1, 1);
        source(12, RIGHT, 1, 60);
        sink(1);
        sink(13);
        refused(-6, () -> x.build(24, SOURCE, RIGHT, 1, 0));
        refused(-6, () -> x.build(24, SOURCE, RIGHT, 1, 61));
        refused(-6, () -> x.build(24, SOURCE, RIGHT, 1, -1));
        for (int odd : ODD) refused(-6, () -> x.build(24, SOURCE, RIGHT, 1, odd));
        refused(-6, () -> x.build(24, SOURCE, 4, 1, 1));
        refused(-6, () -> x.build(24, SOURCE, -1, 1, 1));
        due(x.tick(180), 180 + 3);
    }

    @Says(in = "1. THE FLOOR", words = {"6 MACHINE (of a RECIPE; leads to a SIDE)", "7 SINK (leads to none)"})
    static void aMachineLeadsToASideAndASinkToNone() {
        due(x.recipe(3, 1, 1, 1, 1, 0, 0, 0), 0);
        for (int side = 0; side < 4; side++) {
            machine(side, side, 0);
            due(x.part(side, 1), side);
        }
        refused(-6, () -> x.build(24, MACHINE, -1, 0, 0));
        refused(-6, () -> x.build(24, MACHINE, 4, 0, 0));
        // what comes to a sink doesn't go on
        source(60, RIGHT, 1, 1);
        due(x.build(61, SINK, RIGHT, 0, 0), 1);
        belt(62, RIGHT);
        due(x.tick(10), 10);
        tells(61, 1, 0, 2, 0, 14, 0);
        due(x.part(62, 13), 0);
    }

    @Says(in = "1. THE FLOOR", words = "What lies on BELTS, TUNNELS, EXITS, SPLITTERS, SOURCES is one ITEM or none.")
    static void oneItemLiesOnAPart() {
        source(0, RIGHT, 7, 1);
        belt(1, RIGHT);
        splitter(2, 6);
        tunnel(3, RIGHT);
        exit(5, RIGHT);
        for (int cell : new int[] {0, 1, 2, 3, 5}) due(x.part(cell, 2), 0);
        due(x.status(3), 0);
        due(x.tick(50), 0);
        for (int cell : new int[] {0, 1, 2, 3, 5}) due(x.part(cell, 2), 7);
        due(x.status(3), 5);
    }

    @Says(in = "1. THE FLOOR", words = {"A MACHINE has a STORE of each of its needs, MADE (how many of what it makes lie in it),",
        "and WORK."})
    static void aMachineHasStoresAndWhatItMade() {
        due(x.recipe(9, 3, 5, 1, 2, 2, 4, 0), 0);
        source(at(4, 5), RIGHT, 1, 1);
        source(at(5, 4), DOWN, 2, 1);
        machine(at(5, 5), RIGHT, 0);
        // item 2 from above at the first tick, then 1, 2, 1, .. in turns: 4 of item 2 behind 7 ticks
        due(x.tick(7), 0);
        tells(at(5, 5), 4, 0, 5, 0, 6, 0, 7, 3, 8, 4);
        due(x.tick(1), 0);
        tells(at(5, 5), 4, 0, 5, 0, 6, 1, 7, 2, 8, 0);
        due(x.tick(4), 0);
        tells(at(5, 5), 4, 0, 5, 4, 6, 1);
        due(x.tick(1), 0);
        tells(at(5, 5), 4, 3, 5, 0);
    }

    @Says(in = "1. THE FLOOR", words = "RECIPES have numbers, from 0 on, 8 at most;")
    static void thereAreEightRecipesAtMost() {
        for (int r = 0; r < 8; r++) {
            due(x.status(1), r);
            due(x.recipe(10 + r, 1, 1, 1, 1, 0, 0, 0), r);
        }
        refused(-7, () -> x.recipe(18, 1, 1, 1, 1, 0, 0, 0));
        due(x.status(1), 8);
        due(x.wish(17, 1, 1), 1);
        due(x.machines(7), 1);
    }

    @Says(in = "1. THE FLOOR", words = "no two make one ITEM:")
    static void noTwoRecipesMakeOneItem() {
        due(x.recipe(5, 1, 1, 1, 1, 0, 0, 0), 0);
        refused(-6, () -> x.recipe(5, 2, 2, 2, 2, 0, 0, 0));
        due(x.status(1), 1);
        due(x.recipe(6, 2, 2, 2, 2, 0, 0, 0), 1);
    }

    @Says(in = "1. THE FLOOR", words = "an ITEM, how many it MAKES (1 to 4), TICKS (1 to 60),")
    static void aRecipeMakesOneToFourInOneToSixtyTicks() {
        due(x.recipe(5, 1, 1, 1, 1, 0, 0, 0), 0);
        due(x.recipe(6, 4, 60, 1, 1, 0, 0, 0), 1);
        refused(-6, () -> x.recipe(7, 0, 1, 1, 1, 0, 0, 0));
        refused(-6, () -> x.recipe(7, 5, 1, 1, 1, 0, 0, 0));
        refused(-6, () -> x.recipe(7, -1, 1, 1, 1, 0, 0, 0));
        refused(-6, () -> x.recipe(7, 1, 0, 1, 1, 0, 0, 0));
        refused(-6, () -> x.recipe(7, 1, 61, 1, 1, 0, 0, 0));
        refused(-6, () -> x.recipe(7, 1, -1, 1, 1, 0, 0, 0));
        for (int odd : ODD) {
            refused(-6, () -> x.recipe(7, odd, 1, 1, 1, 0, 0, 0));
            refused(-6, () -> x.recipe(7, 1, odd, 1, 1, 0, 0, 0));
        }
        due(x.status(1), 2);
    }

    @Says(in = "1. THE FLOOR", words = "one or two unlike ITEMS that it needs (1 to 4 of each; none is the ITEM itself),")
    static void aRecipeNeedsOneOrTwoUnlikeItems() {
        due(x.recipe(5, 1, 1, 1, 1, 0, 0, 0), 0);
        due(x.recipe(6, 1, 1, 1, 4, 2, 1, 0), 1);
        due(x.recipe(7, 1, 1, 20, 1, 1, 4, 0), 2);
        refused(-6, () -> x.recipe(8, 1, 1, 0, 1, 0, 0, 0));
        refused(-6, () -> x.recipe(8, 1, 1, 0, 1, 1, 1, 0));
        refused(-6, () -> x.recipe(8, 1, 1, 1, 1, 1, 1, 0));
        refused(-6, () -> x.recipe(8, 1, 1, 1, 0, 2, 1, 0));
        refused(-6, () -> x.recipe(8, 1, 1, 1, 5, 2, 1, 0));
        refused(-6, () -> x.recipe(8, 1, 1, 1, 1, 2, 0, 0));
        refused(-6, () -> x.recipe(8, 1, 1, 1, 1, 2, 5, 0));
        refused(-6, () -> x.recipe(8, 1, 1, 8, 1, 0, 0, 0));
        refused(-6, () -> x.recipe(8, 1, 1, 1, 1, 8, 1, 0));
        for (int odd : ODD) {
            refused(-6, () -> x.recipe(8, 1, 1, odd, 1, 0, 0, 0));
            refused(-6, () -> x.recipe(8, 1, 1, 1, odd, 0, 0, 0));
            refused(-6, () -> x.recipe(8, 1, 1, 1, 1, odd, 1, 0));
            refused(-6, () -> x.recipe(8, 1, 1, 1, 1, 2, odd, 0));
        }
        due(x.status(1), 3);
    }

    @Says(in = "1. THE FLOOR", words = "POWER (0 to 100).")
    static void powerIsZeroToAHundred() {
        due(x.recipe(5, 1, 1, 1, 1, 0, 0, 0), 0);
        due(x.recipe(6, 1, 1, 1, 1, 0, 0, 100), 1);
        refused(-6, () -> x.recipe(7, 1, 1, 1, 1, 0, 0, -1));
        refused(-6, () -> x.recipe(7, 1, 1, 1, 1, 0, 0, 101));
        for (int odd : ODD) refused(-6, () -> x.recipe(7, 1, 1, 1, 1, 0, 0, odd));
        due(x.status(1), 2);
    }

    @Says(in = "1. THE FLOOR", words = "SHELVES 0 to 7 hold NOTHING (at first), a ROW, or a PIECE of floor.")
    static void thereAreEightShelves() {
        for (int s = 0; s < 8; s++) {
            due(x.holds(s), NONE);
            due(x.row(s, 1, 1), 1);
            due(x.holds(s), 101);
            due(x.take(s, 0, 1, 1), 0);
            due(x.holds(s), 0);
        }
        refused(-1, () -> x.row(-1, 1, 1));
        refused(-1, () -> x.row(8, 1, 1));
        refused(-1, () -> x.take(-1, 0, 1, 1));
        refused(-1, () -> x.take(8, 0, 1, 1));
        for (int odd : ODD) refused(-1, () -> x.row(odd, 1, 1));
    }

    @Says(in = "1. THE FLOOR", words = "A ROW has a SORT (0 bytes, 1 shorts, 2 ints, 3 longs)")
    static void aRowHasOneOfFourSorts() {
        for (int sort = 0; sort < 4; sort++) {
            due(x.row(sort, sort, 1), 1);
            due(x.holds(sort), 100 + sort);
        }
        refused(-6, () -> x.row(4, -1, 1));
        refused(-6, () -> x.row(4, 4, 1));
        for (int odd : ODD) refused(-6, () -> x.row(4, odd, 1));
        due(x.holds(4), NONE);
    }

    @Says(in = "1. THE FLOOR", words = "and 0 to 100 elements, 0 at first;")
    static void aRowHasZeroToAHundredElements() {
        due(x.row(0, 3, 0), 1);
        refused(-5, () -> x.set(0, 0, 1));
        due(x.row(1, 3, 100), 1);
        for (int i = 0; i < 100; i++) due(x.element(1, i), 0);
        due(x.set(1, 99, 5), 1);
        refused(-5, () -> x.set(1, 100, 5));
        refused(-7, () -> x.row(2, 3, 101));
        refused(-4, () -> x.row(2, 3, -1));
        due(x.row(1, 3, 100), 1);
        due(x.element(1, 99), 0);
    }

    @Says(in = "1. THE FLOOR", words = "what is put in keeps its lowest bits.")
    static void elementsKeepTheirLowestBits() {
        long[] values = {0x7f, 0x80, 0xff, 0x100, 0x17f, 0x7fff, 0x8000, 0xffff, 0x10000, 0x7fffffffL, 0x80000000L,
            0xffffffffL, 0x100000000L, Long.MAX_VALUE, Long.MIN_VALUE, -1, -128, -129};
        long[] bytes = {127, -128, -1, 0, 127, -1, 0, -1, 0, -1, 0, -1, 0, -1, 0, -1, -128, 127};
        long[] shorts = {127, 128, 255, 256, 383, 32767, -32768, -1, 0, -1, 0, -1, 0, -1, 0, -1, -128, -129};
        long[] ints = {127, 128, 255, 256, 383, 32767, 32768, 65535, 65536, MOST, LEAST, -1, 0, -1, 0, -1, -128, -129};
        for (int sort = 0; sort < 4; sort++) due(x.row(sort, sort, values.length), 1);
        for (int sort = 0; sort < 4; sort++) fill(sort, values);
        holdsElements(0, bytes);
        holdsElements(1, shorts);
        holdsElements(2, ints);
        holdsElements(3, values);
    }
}
