/** The document's promises 1 to 5, 15, 19, 20 and 26 (recipes, parts, ticks, what is told), sentence by sentence. */
public final class PartSentencesTest extends Checks {
    public static void main(String[] args) {
        runAll(PartSentencesTest.class);
    }

    // ---- promise 1

    @Says(in = "Promise 1", words = "A BARE floor.")
    static void aNewObjectIsABareFloor() {
        for (int cell = 0; cell < 144; cell++) due(x.part(cell, 0), 0);
        for (int what = 0; what <= 4; what++) due(x.status(what), 0);
        for (int what = 11; what <= 17; what++) due(x.status(what), 0);
        for (int s = 0; s < 8; s++) due(x.holds(s), NONE);
        for (int item = 1; item <= 20; item++) {
            due(x.sunk(item), 0);
            due(x.rate(item, false), 0);
            due(x.rate(item, true), 1);
        }
        for (int r = 0; r < 8; r++) due(x.machines(r), 0);
        for (int what = 0; what <= 4; what++) due(x.turned(what), NONE);
        due(x.cellTurn(0, 0), NONE);
    }

    @Says(in = "Promise 1", words = "A BARE floor.")
    static void twoObjectsShareNothing() {
        FloorTurn other = new FloorTurn();
        due(other.recipe(3, 1, 1, 1, 1, 0, 0, 0), 0);
        due(other.build(5, MACHINE, 1, 0, 0), 1);
        due(other.row(2, 1, 3), 1);
        due(other.tick(3), 0);
        due(other.turn(9), 1);
        due(other.raze(-1), -1);
        due(x.status(0), 0);
        due(x.status(1), 0);
        due(x.status(2), 0);
        due(x.status(11), 0);
        due(x.holds(2), NONE);
        due(x.turned(0), NONE);
        refused(-1, () -> x.build(5, MACHINE, 1, 0, 0));
    }

    // ---- promise 2

    @Says(in = "Promise 2", words = "A new RECIPE: its number.")
    static void recipesAreNumberedFromZeroOn() {
        for (int r = 0; r < 8; r++) {
            due(x.recipe(20 - r, 1 + r % 4, 1 + r, 1, 1, 0, 0, r), r);
            due(x.status(1), r + 1);
        }
        // the numbers are those that machines have
        for (int r = 0; r < 8; r++) {
            machine(r, RIGHT, r);
            due(x.part(r, 11), r);
        }
    }

    @Says(in = "Promise 2", words = "A new RECIPE: its number.")
    static void aRefusedRecipeTakesNoNumber() {
        refused(-6, () -> x.recipe(3, 0, 1, 1, 1, 0, 0, 0));
        due(x.recipe(3, 1, 1, 1, 1, 0, 0, 0), 0);
        refused(-6, () -> x.recipe(3, 1, 1, 1, 1, 0, 0, 0));
        due(x.recipe(4, 1, 1, 1, 1, 0, 0, 0), 1);
    }

    @Says(in = "Promise 2", words = "need2 0: it has one need (n2 doesn't count).")
    static void withoutASecondNeedItsNumberDoesNotCount() {
        due(x.recipe(3, 1, 1, 1, 1, 0, 5, 0), 0);
        due(x.recipe(4, 1, 1, 1, 1, 0, -1, 0), 1);
        due(x.recipe(5, 1, 1, 1, 1, 0, LEAST, 0), 2);
        due(x.recipe(6, 1, 1, 1, 1, 0, MOST, 0), 3);
        due(x.recipe(7, 1, 1, 1, 1, 0, 4, 0), 4);
        // work begins with the one need, nothing else is wanted
        for (int r = 0; r < 5; r++) {
            source(at(0, 2 * r), RIGHT, 1, 1);
            machine(at(1, 2 * r), RIGHT, r);
            sink(at(2, 2 * r));
        }
        due(x.tick(3), 5);
        for (int r = 0; r < 5; r++) tells(at(1, 2 * r), 7, 1, 8, 0, 13, 3);
        due(x.wish(7, 1, 1), 1);
        for (int item = 2; item <= 20; item++) {
            if (item != 7) due(x.rate(item, false), 0);
        }
    }

    @Says(in = "Promise 2", words = "-6 an ITEM that is none (need2 may be 0), a number that may not be,")
    static void aRecipeOfNoItemIsRefused() {
        for (int none : new int[] {0, 21, -1, LEAST, MOST}) {
            refused(-6, () -> x.recipe(none, 1, 1, 1, 1, 0, 0, 0));
            refused(-6, () -> x.recipe(3, 1, 1, none, 1, 0, 0, 0));
            if (none != 0) refused(-6, () -> x.recipe(3, 1, 1, 1, 1, none, 1, 0));
        }
        due(x.recipe(3, 1, 1, 1, 1, 0, 1, 0), 0);
        due(x.recipe(20, 1, 1, 19, 1, 18, 1, 0), 1);
        due(x.recipe(1, 1, 1, 20, 1, 2, 1, 0), 2);
    }

    @Says(in = "Promise 2", words = "a number that may not be,")
    static void aRecipeOfANumberThatMayNotBeIsRefused() {
        for (int out : new int[] {0, 5, -1}) {
            refused(-6, () -> x.recipe(3, out, 1, 1, 1, 0, 0, 0));
            refused(-6, () -> x.recipe(3, 1, 1, 1, out, 0, 0, 0));
            refused(-6, () -> x.recipe(3, 1, 1, 1, 1, 2, out, 0));
        }
        for (int out : new int[] {0, 61, -1}) refused(-6, () -> x.recipe(3, 1, out, 1, 1, 0, 0, 0));
        for (int out : new int[] {-1, 101}) refused(-6, () -> x.recipe(3, 1, 1, 1, 1, 0, 0, out));
        due(x.recipe(3, 4, 60, 1, 4, 2, 4, 100), 0);
        due(x.recipe(4, 1, 1, 1, 1, 2, 1, 0), 1);
    }

    @Says(in = "Promise 2", words = "an ITEM that has a RECIPE, a need that is the ITEM, two needs alike;")
    static void aRecipeOfItemsThatDoNotGoTogetherIsRefused() {
        due(x.recipe(3, 1, 1, 1, 1, 0, 0, 0), 0);
        refused(-6, () -> x.recipe(3, 1, 1, 2, 1, 0, 0, 0));
        refused(-6, () -> x.recipe(4, 1, 1, 4, 1, 0, 0, 0));
        refused(-6, () -> x.recipe(4, 1, 1, 4, 1, 1, 1, 0));
        refused(-6, () -> x.recipe(4, 1, 1, 1, 1, 4, 1, 0));
        refused(-6, () -> x.recipe(4, 1, 1, 1, 1, 1, 2, 0));
        // a need may have a recipe, and the item may be a need of another
        due(x.recipe(4, 1, 1, 3, 1, 0, 0, 0), 1);
        due(x.recipe(1, 1, 1, 4, 1, 3, 1, 0), 2);
    }

    @Says(in = "Promise 2", words = "two needs alike; -7.")
    static void aNinthRecipeIsRefused() {
        for (int r = 0; r < 8; r++) due(x.recipe(1 + r, 1, 1, 20, 1, 0, 0, 0), r);
        refused(-7, () -> x.recipe(9, 1, 1, 20, 1, 0, 0, 0));
        refused(-6, () -> x.recipe(8, 1, 1, 20, 1, 0, 0, 0));
        refused(-6, () -> x.recipe(9, 1, 1, 9, 1, 0, 0, 0));
        due(x.status(1), 8);
        refused(-6, () -> x.wish(9, 1, 1));
    }

    // ---- promise 3

    @Says(in = "Promise 3", words = "A PART on a BARE CELL: 1.")
    static void everyCellCanBeBuiltOn() {
        for (int cell = 0; cell < 144; cell++) belt(cell, cell % 4);
        due(x.status(0), 144);
        for (int cell = 0; cell < 144; cell++) due(x.part(cell, 1), cell % 4);
        refused(-6, () -> x.build(143, BELT, 0, 0, 0));
    }

    @Says(in = "Promise 3",
        words = "side: to which it leads; of a SPLITTER a sum of 1, 2, 4, 8 for its OUTS; of a SINK it doesn't count.")
    static void theSideOfASinkDoesNotCount() {
        int[] sides = {0, 3, 4, 15, 16, -1, LEAST, MOST};
        for (int k = 0; k < sides.length; k++) {
            due(x.build(k, SINK, sides[k], 0, 0), 1);
            due(x.part(k, 1), 0);
        }
    }

    @Says(in = "Promise 3", words = "of a SPLITTER a sum of 1, 2, 4, 8 for its OUTS;")
    static void theSumOfASplitterTellsItsOuts() {
        // outs 0 and 2 are 1 and 4: the sinks above and below get one each, that on the right none
        source(65, RIGHT, 1, 1);
        splitter(66, 1 + 4);
        sink(54);
        sink(67);
        sink(78);
        due(x.tick(5), 2);
        due(x.part(54, 13), 1);
        due(x.part(67, 13), 0);
        due(x.part(78, 13), 1);
    }

    @Says(in = "Promise 3", words = "arg: of a SOURCE its ITEM, of a MACHINE its RECIPE; period: of a SOURCE.")
    static void argAndPeriodOfOtherPartsDoNotCount() {
        due(x.recipe(3, 1, 1, 1, 1, 0, 0, 0), 0);
        int[] odd = {LEAST, -1, 21, 99, MOST, 0, 61};
        int cell = 0;
        for (int kind : new int[] {BELT, TUNNEL, EXIT, SPLITTER, SINK}) {
            for (int arg : odd) {
                due(x.build(cell, kind, 3, arg, -arg), 1);
                tells(cell, 11, 0, 12, 0);
                cell++;
            }
        }
        for (int period : odd) {
            due(x.build(cell, MACHINE, 3, 0, period), 1);
            tells(cell, 11, 0, 12, 0);
            cell++;
        }
    }

    @Says(in = "Promise 3", words = "-1 CELL, RECIPE;")
    static void aMachineOfNoRecipeIsRefused() {
        refused(-1, () -> x.build(0, MACHINE, 0, 0, 0));
        due(x.recipe(3, 1, 1, 1, 1, 0, 0, 0), 0);
        refused(-1, () -> x.build(0, MACHINE, 0, 1, 0));
        refused(-1, () -> x.build(0, MACHINE, 0, -1, 0));
        refused(-1, () -> x.build(0, MACHINE, 0, 8, 0));
        for (int odd : ODD) refused(-1, () -> x.build(0, MACHINE, 0, odd, 0));
        machine(0, UP, 0);
        for (int r = 1; r < 8; r++) due(x.recipe(3 + r, 1, 1, 1, 1, 0, 0, 0), r);
        machine(1, UP, 7);
        refused(-1, () -> x.build(2, MACHINE, 0, 8, 0));
    }

    @Says(in = "Promise 3", words = "-1 CELL, RECIPE; -6 KIND, side, ITEM, PERIOD, not BARE.")
    static void aCellThatIsNoneIsRefusedAheadOfAllElse() {
        for (int cell : new int[] {-1, 144, -12, LEAST, MOST}) {
            refused(-1, () -> x.build(cell, BELT, 0, 0, 0));
            refused(-1, () -> x.build(cell, 9, 9, 0, 0));
            refused(-1, () -> x.build(cell, MACHINE, 9, 0, 0));
        }
        due(x.status(0), 0);
    }

    @Says(in = "Promise 3", words = "-6 KIND, side, ITEM, PERIOD, not BARE.")
    static void aPartOfAWrongNumberIsRefused() {
        due(x.recipe(3, 1, 1, 1, 1, 0, 0, 0), 0);
        refused(-6, () -> x.build(0, 0, 0, 1, 1));
        refused(-6, () -> x.build(0, 8, 0, 1, 1));
        for (int kind : new int[] {BELT, TUNNEL, EXIT, SOURCE, MACHINE}) {
            int arg = kind == SOURCE ? 1 : 0;
            refused(-6, () -> x.build(0, kind, -1, arg, 1));
            refused(-6, () -> x.build(0, kind, 4, arg, 1));
        }
        for (int outs : new int[] {0, 1, 8, 15, 16, -1}) refused(-6, () -> x.build(0, SPLITTER, outs, 0, 0));
        for (int item : new int[] {0, 21, -1}) refused(-6, () -> x.build(0, SOURCE, 0, item, 1));
        for (int period : new int[] {0, 61, -1}) refused(-6, () -> x.build(0, SOURCE, 0, 1, period));
        due(x.part(0, 0), 0);
        sink(0);
        refused(-6, () -> x.build(0, SINK, 0, 0, 0));
        refused(-6, () -> x.build(0, MACHINE, 0, 0, 0));
    }

    // ---- promise 4

    @Says(in = "Promise 4", words = {"PARTS from the ROW in SHELF s, five elements each", "CELL, KIND, side, arg, period, as build(),",
        "one after the other: how many."})
    static void partsAreBuiltFromARow() {
        due(x.recipe(3, 1, 1, 1, 1, 0, 0, 0), 0);
        due(x.row(0, 1, 20), 1);
        fill(0, 0, SOURCE, 1, 1, 2, 1, MACHINE, 1, 0, 0, 2, BELT, 2, 0, 0, 14, SINK, 9, 9, 9);
        due(x.builds(0), 4);
        due(x.status(0), 4);
        tells(0, 0, SOURCE, 1, 1, 11, 1, 12, 2);
        tells(1, 0, MACHINE, 1, 1, 11, 0);
        tells(2, 0, BELT, 1, 2);
        tells(14, 0, SINK, 1, 0);
        due(x.tick(6), 1);
    }

    @Says(in = "Promise 4", words = "PARTS from the ROW in SHELF s, five elements each")
    static void aRowOfNoElementsBuildsNone() {
        for (int sort = 0; sort < 4; sort++) {
            due(x.row(sort, sort, 0), 1);
            due(x.builds(sort), 0);
        }
        due(x.status(0), 0);
    }

    @Says(in = "Promise 4", words = "PARTS from the ROW in SHELF s, five elements each")
    static void aFullRowBuildsTwentyParts() {
        due(x.row(7, 0, 100), 1);
        for (int k = 0; k < 20; k++) {
            due(x.set(7, 5 * k, 127 - 5 * k), 1);
            due(x.set(7, 5 * k + 1, SINK), 1);
        }
        due(x.builds(7), 20);
        for (int k = 0; k < 20; k++) due(x.part(127 - 5 * k, 0), SINK);
        due(x.status(0), 20);
    }

    @Says(in = "Promise 4", words = "(as ints: of longs the lowest 32 bits):")
    static void ofLongsTheLowestBitsCount() {
        due(x.row(0, 3, 5), 1);
        long high = 7L << 32;
        fill(0, high + 20, Long.MIN_VALUE + SOURCE, -high + 2, high + 6, high + 60);
        due(x.builds(0), 1);
        tells(20, 0, SOURCE, 1, 2, 11, 6, 12, 60);
        // bit 31 is the sign of an int
        due(x.row(0, 3, 5), 1);
        fill(0, 0x80000000L + 21, SINK, 0, 0, 0);
        refused(-6, () -> x.builds(0));
    }

    @Says(in = "Promise 4", words = "(as ints:")
    static void bytesAndShortsKeepTheirSign() {
        due(x.row(0, 0, 5), 1);
        fill(0, 127, SPLITTER, 14, 0, 0);
        due(x.builds(0), 1);
        // 128 in a byte is -128, which is no cell
        fill(0, 128);
        refused(-6, () -> x.builds(0));
        due(x.row(1, 1, 5), 1);
        fill(1, 128, BELT, 1);
        due(x.builds(1), 1);
        fill(1, 65536 + 129);
        due(x.builds(1), 1);
        due(x.part(129, 0), BELT);
    }

    @Says(in = "Promise 4", words = {"All or none: -1 the SHELF; -2; -3;", "-6 its elements are no multiple of 5,"})
    static void aRowThatIsNoMultipleOfFiveIsRefused() {
        for (int n : new int[] {1, 2, 3, 4, 6, 9, 11, 99}) {
            due(x.row(0, 2, n), 1);
            if (n > 1) fill(0, 3, SINK);
            refused(-6, () -> x.builds(0));
        }
        due(x.status(0), 0);
        due(x.row(0, 2, 5), 1);
        fill(0, 3, SINK);
        due(x.builds(0), 1);
    }

    @Says(in = "Promise 4", words = "All or none: -1 the SHELF; -2; -3;")
    static void buildsOfNoRowIsRefused() {
        refused(-1, () -> x.builds(-1));
        refused(-1, () -> x.builds(8));
        for (int odd : ODD) refused(-1, () -> x.builds(odd));
        refused(-3, () -> x.builds(7));
        due(x.take(7, 0, 12, 12), 0);
        refused(-2, () -> x.builds(7));
    }

    @Says(in = "Promise 4", words = "or one would be refused.")
    static void oneThatWouldBeRefusedRefusesAll() {
        // the last of three is wrong, in each way once; none is built, one refusal is counted
        due(x.recipe(3, 1, 1, 1, 1, 0, 0, 0), 0);
        belt(50, UP);
        int[][] wrong = {{144, SINK, 0, 0, 0}, {-1, SINK, 0, 0, 0}, {2, 0, 0, 0, 0}, {2, 8, 0, 0, 0}, {2, BELT, 4, 0, 0},
            {2, SPLITTER, 8, 0, 0}, {2, SOURCE, 1, 21, 1}, {2, SOURCE, 1, 1, 61}, {2, MACHINE, 0, 1, 0}, {50, SINK, 0, 0, 0}};
        due(x.row(0, 2, 15), 1);
        fill(0, 0, BELT, 1, 0, 0, 1, SOURCE, 1, 1, 1);
        for (int[] part : wrong) {
            for (int k = 0; k < 5; k++) due(x.set(0, 10 + k, part[k]), 1);
            refused(-6, () -> x.builds(0));
            due(x.part(0, 0), 0);
            due(x.part(1, 0), 0);
        }
        due(x.status(0), 1);
        due(x.status(11), 0);
        // the first one wrong, too
        for (int k = 0; k < 5; k++) due(x.set(0, 10 + k, k < 2 ? 2 : 0), 1);
        due(x.set(0, 0, 50), 1);
        refused(-6, () -> x.builds(0));
        due(x.set(0, 0, 0), 1);
        due(x.builds(0), 3);
    }

    @Says(in = "Promise 4", words = {"one after the other:", "or one would be refused."})
    static void twoPartsOfARowOnOneCellAreRefused() {
        due(x.row(0, 2, 15), 1);
        fill(0, 9, BELT, 1, 0, 0, 8, SINK, 0, 0, 0, 9, SINK, 0, 0, 0);
        refused(-6, () -> x.builds(0));
        due(x.status(0), 0);
        due(x.set(0, 10, 10), 1);
        due(x.builds(0), 3);
        // what stands now, again
        refused(-6, () -> x.builds(0));
    }

    // ---- promise 5

    @Says(in = "Promise 5", words = "A CELL is BARE (what is in the PART is gone): the KIND that it had, 0 if it was BARE.")
    static void razeTellsTheKind() {
        due(x.recipe(3, 1, 1, 1, 1, 0, 0, 0), 0);
        for (int kind = BELT; kind <= SINK; kind++) {
            due(x.build(143, kind, 3, kind == SOURCE ? 1 : 0, 1), 1);
            due(x.raze(143), kind);
            for (int what = 0; what <= 14; what++) due(x.part(143, what), 0);
            due(x.raze(143), 0);
        }
        due(x.raze(0), 0);
        due(x.status(0), 0);
    }

    @Says(in = "Promise 5", words = "(what is in the PART is gone)")
    static void whatLiesInARazedPartIsGone() {
        due(x.recipe(3, 4, 1, 1, 1, 2, 1, 0), 0);
        source(at(4, 5), RIGHT, 1, 1);
        source(at(5, 4), DOWN, 2, 1);
        machine(at(5, 5), RIGHT, 0);
        due(x.tick(40), 0);
        // 8 made, 2 and 2 stored, one in each source
        due(x.status(3), 14);
        due(x.raze(at(5, 5)), MACHINE);
        due(x.status(3), 2);
        due(x.raze(at(4, 5)), SOURCE);
        due(x.status(3), 1);
        machine(at(5, 5), RIGHT, 0);
        tells(at(5, 5), 2, 0, 4, 0, 5, 0, 6, 0, 7, 0, 8, 0, 9, 3, 10, 3, 13, 0, 14, 0);
        due(x.status(4), 0);
    }

    @Says(in = "Promise 5", words = "(what is in the PART is gone)")
    static void clockAndWorkOfARazedPartAreGone() {
        due(x.recipe(3, 4, 9, 1, 1, 0, 0, 0), 0);
        source(0, RIGHT, 1, 7);
        machine(1, RIGHT, 0);
        due(x.tick(11), 0);
        // the clock at 4, work begun in tick 8
        due(x.part(0, 3), 4);
        tells(1, 5, 3, 6, 1);
        due(x.raze(0), SOURCE);
        due(x.raze(1), MACHINE);
        due(x.part(0, 3), 0);
        tells(1, 5, 0, 6, 0);
        source(0, RIGHT, 1, 7);
        machine(1, RIGHT, 0);
        due(x.part(0, 3), 0);
        tells(1, 5, 0, 6, 0);
        due(x.tick(7), 0);
        tells(1, 4, 0, 5, 0, 6, 0, 7, 1);
        due(x.tick(9), 0);
        tells(1, 4, 0, 5, 8, 6, 1);
        due(x.tick(1), 0);
        tells(1, 4, 4, 5, 0);
    }

    @Says(in = "Promise 5", words = "-1.")
    static void razeOfNoCellIsRefused() {
        refused(-1, () -> x.raze(-1));
        refused(-1, () -> x.raze(144));
        for (int odd : ODD) refused(-1, () -> x.raze(odd));
        due(x.raze(143), 0);
        due(x.raze(0), 0);
    }

    // ---- promise 15

    @Says(in = "Promise 15", words = "So many TICKS: how many ITEMS came to SINKS.")
    static void tickTellsWhatCameToSinksInItsTicks() {
        source(0, RIGHT, 1, 3);
        sink(1);
        source(24, RIGHT, 2, 5);
        sink(25);
        due(x.tick(1), 0);
        due(x.tick(1), 0);
        due(x.tick(1), 1);
        due(x.tick(2), 1);
        // of 15 ticks each third and each fifth: 5 and 3, two of which were told; of 215 71 and 43
        due(x.tick(10), 8 - 2);
        due(x.status(2), 15);
        due(x.tick(200), 114 - 8);
        due(x.status(2), 215);
        due(x.status(4), 114);
    }

    @Says(in = "Promise 15", words = "-6 n not 1 to 200;")
    static void tickOfNoneOrTooManyIsRefused() {
        refused(-6, () -> x.tick(0));
        refused(-6, () -> x.tick(201));
        refused(-6, () -> x.tick(-1));
        for (int odd : ODD) refused(-6, () -> x.tick(odd));
        due(x.status(2), 0);
        due(x.tick(1), 0);
        due(x.tick(200), 0);
        due(x.status(2), 201);
    }

    @Says(in = "Promise 15", words = "-7 more than 20,000 TICKS.")
    static void moreThanTwentyThousandTicksAreRefused() {
        for (int k = 0; k < 99; k++) due(x.tick(200), 0);
        refused(-6, () -> x.tick(201));
        due(x.tick(100), 0);
        refused(-7, () -> x.tick(101));
        due(x.status(2), 19900);
        due(x.tick(99), 0);
        refused(-7, () -> x.tick(2));
        due(x.tick(1), 0);
        due(x.status(2), 20000);
        refused(-7, () -> x.tick(1));
        // turn() isn't bound by that
        source(0, RIGHT, 1, 30);
        sink(1);
        due(x.turn(400), 30);
    }

    // ---- promise 19

    @Says(in = "Promise 19",
        words = "Of a CELL's PART now: 0 KIND (0 BARE), 1 the SIDE to which it leads (of a SPLITTER as told; of a SINK, BARE 0),")
    static void partTellsKindAndSide() {
        due(x.recipe(3, 1, 1, 1, 1, 0, 0, 0), 0);
        tells(0, 0, 0, 1, 0);
        belt(1, LEFT);
        splitter(2, 11);
        due(x.build(3, SINK, 3, 0, 0), 1);
        machine(4, DOWN, 0);
        source(5, LEFT, 1, 1);
        tunnel(6, DOWN);
        exit(7, RIGHT);
        tells(1, 0, BELT, 1, LEFT);
        tells(2, 0, SPLITTER, 1, 11);
        tells(3, 0, SINK, 1, 0);
        tells(4, 0, MACHINE, 1, DOWN);
        tells(5, 0, SOURCE, 1, LEFT);
        tells(6, 0, TUNNEL, 1, DOWN);
        tells(7, 0, EXIT, 1, RIGHT);
    }

    @Says(in = "Promise 19", words = "2 its ITEM (0; of a MACHINE what it makes, if MADE is above 0),")
    static void partTellsItsItem() {
        due(x.recipe(3, 2, 1, 17, 1, 0, 0, 0), 0);
        source(0, RIGHT, 17, 1);
        machine(1, RIGHT, 0);
        due(x.part(0, 2), 0);
        due(x.tick(2), 0);
        tells(1, 2, 0, 4, 0, 6, 1);
        due(x.tick(1), 0);
        tells(1, 2, 3, 4, 2);
        due(x.tick(9), 0);
        due(x.part(0, 2), 17);
        due(x.raze(0), SOURCE);
        sink(2);
        due(x.tick(9), 8);
        tells(1, 2, 0, 4, 0);
        due(x.part(2, 2), 0);
    }

    @Says(in = "Promise 19", words = {"3 CLOCK, 4 MADE, 5 WORK, 6 1 if it works,", "7 STORE of its RECIPE's first need, 8 of its second,"})
    static void partTellsClockWorkAndStores() {
        // item 9 is the first need, though a greater number than 2
        due(x.recipe(3, 3, 7, 9, 2, 2, 1, 0), 0);
        source(at(4, 5), RIGHT, 9, 1);
        source(at(5, 4), DOWN, 2, 5);
        machine(at(5, 5), RIGHT, 0);
        due(x.tick(4), 0);
        // four of 9 fill the first store; the second need comes in tick 5
        tells(at(5, 5), 4, 0, 5, 0, 6, 0, 7, 4, 8, 0);
        tells(at(5, 4), 2, 0, 3, 4);
        due(x.tick(1), 0);
        tells(at(5, 5), 6, 0, 7, 4, 8, 1);
        tells(at(5, 4), 2, 0, 3, 0);
        // it begins, and what waits on the left comes in
        due(x.tick(1), 0);
        tells(at(5, 5), 4, 0, 5, 0, 6, 1, 7, 3, 8, 0);
        due(x.tick(6), 0);
        tells(at(5, 5), 4, 0, 5, 6, 6, 1, 7, 4, 8, 1);
        // ends in tick 13 and begins again
        due(x.tick(1), 0);
        tells(at(5, 5), 4, 3, 5, 0, 6, 1, 7, 3, 8, 0);
    }

    @Says(in = "Promise 19", words = "9 TOOK, 10 GAVE, 11 arg, 12 PERIOD, 13 how many ITEMS it ever took, 14 gave.")
    static void partTellsWhatItEverTookAndGave() {
        source(0, RIGHT, 20, 2);
        belt(1, RIGHT);
        splitter(2, 2 + 4);
        sink(3);
        sink(14);
        due(x.tick(12), 5);
        tells(0, 9, 3, 10, 3, 11, 20, 12, 2, 13, 0, 14, 6);
        tells(1, 9, 3, 10, 3, 11, 0, 12, 0, 13, 6, 14, 5);
        tells(2, 9, 3, 10, 1, 13, 5, 14, 5);
        tells(3, 9, 3, 13, 3, 14, 0);
        tells(14, 9, 0, 13, 2, 14, 0);
        // turn() doesn't count, and built anew it begins with 0
        due(x.turn(400) > 0 ? 1 : 0, 1);
        tells(1, 13, 6, 14, 5);
        due(x.raze(1), BELT);
        belt(1, RIGHT);
        tells(1, 13, 0, 14, 0);
    }

    @Says(in = "Promise 19", words = "(What its KIND hasn't is 0; TOOK, GAVE of all PARTS are told.)")
    static void whatAKindHasNotIsZero() {
        due(x.recipe(3, 1, 1, 1, 1, 0, 0, 0), 0);
        for (int kind = BELT; kind <= SINK; kind++) {
            due(x.build(kind, kind, 3, kind == SOURCE ? 4 : 0, 5), 1);
            for (int what = 2; what <= 14; what++) {
                int told = what == 9 || what == 10 ? 3 : 0;
                if (kind == SOURCE && what == 11) told = 4;
                if (kind == SOURCE && what == 12) told = 5;
                due(x.part(kind, what), told);
            }
        }
        for (int what = 0; what <= 14; what++) due(x.part(100, what), 0);
    }

    @Says(in = "Promise 19", words = "NONE: no such CELL, another what.")
    static void partOfNoCellOrAnotherWhatIsNone() {
        sink(0);
        for (int what = 0; what <= 14; what++) {
            due(x.part(-1, what), NONE);
            due(x.part(144, what), NONE);
        }
        for (int cell : new int[] {0, 1, 143}) {
            due(x.part(cell, -1), NONE);
            due(x.part(cell, 15), NONE);
            due(x.part(cell, 14), 0);
        }
        for (int odd : ODD) {
            due(x.part(odd, 0), NONE);
            due(x.part(0, odd), NONE);
        }
    }

    // ---- promise 20

    @Says(in = "Promise 20", words = "How many of an ITEM came to SINKS ever;")
    static void sunkTellsWhatCameToAllSinksEver() {
        source(0, RIGHT, 1, 1);
        sink(1);
        source(24, RIGHT, 1, 2);
        sink(25);
        source(48, RIGHT, 20, 3);
        sink(49);
        due(x.tick(6), 6 + 3 + 2);
        due(x.sunk(1), 9);
        due(x.sunk(20), 2);
        // sinks that have gone count, what turn() looks at doesn't
        due(x.raze(1), SINK);
        due(x.raze(25), SINK);
        due(x.turn(400) > 0 ? 1 : 0, 1);
        due(x.sunk(1), 9);
        due(x.tick(3), 1);
        due(x.sunk(1), 9);
        due(x.sunk(20), 3);
        due(x.status(4), 12);
    }

    @Says(in = "Promise 20", words = "0: no such ITEM.")
    static void sunkOfNoItemIsZero() {
        source(0, RIGHT, 1, 1);
        sink(1);
        due(x.tick(3), 3);
        due(x.sunk(0), 0);
        due(x.sunk(21), 0);
        due(x.sunk(-1), 0);
        for (int odd : ODD) due(x.sunk(odd), 0);
    }

    // ---- promise 26

    @Says(in = "Promise 26", words = "How many: 0 PARTS, 1 RECIPES, 2 TICKS ever,")
    static void statusTellsPartsRecipesAndTicks() {
        for (int cell = 0; cell < 144; cell++) sink(cell);
        due(x.status(0), 144);
        due(x.raze(0), SINK);
        due(x.status(0), 143);
        for (int r = 0; r < 8; r++) due(x.recipe(1 + r, 1, 1, 20, 1, 0, 0, 0), r);
        due(x.status(1), 8);
        due(x.tick(200), 0);
        due(x.turn(400), 1);
        due(x.status(2), 200);
    }

    @Says(in = "Promise 26", words = "3 ITEMS on the floor (STORES and MADE, too), 4 ITEMS that came to SINKS,")
    static void statusTellsTheItems() {
        due(x.recipe(3, 3, 2, 1, 2, 0, 0, 0), 0);
        source(0, RIGHT, 1, 1);
        machine(1, RIGHT, 0);
        due(x.tick(2), 0);
        due(x.status(3), 2);
        // two are taken out when it begins, and one comes in: what is worked on isn't counted
        due(x.tick(1), 0);
        due(x.status(3), 1);
        due(x.tick(2), 0);
        // 3 made, 3 stored ahead, of which two are taken out and begun with
        tells(1, 4, 3, 6, 1, 7, 1);
        due(x.status(3), 3 + 1);
        due(x.tick(9), 0);
        // 6 made, 4 stored, one in the source
        due(x.status(3), 11);
        sink(2);
        due(x.tick(2), 2);
        due(x.status(3), 9);
        due(x.status(4), 2);
        due(x.sunk(3), 2);
    }

    @Says(in = "Promise 26", words = "11 to 17: REFUSALS -1 to -7.")
    static void statusTellsTheRefusals() {
        for (int what = 11; what <= 17; what++) due(x.status(what), 0);
        refused(-1, () -> x.raze(144));
        for (int k = 0; k < 2; k++) refused(-3, () -> x.partsIn(0));
        due(x.row(0, 0, 1), 1);
        for (int k = 0; k < 3; k++) refused(-2, () -> x.partsIn(0));
        for (int k = 0; k < 4; k++) refused(-4, () -> x.row(0, 0, -1));
        for (int k = 0; k < 5; k++) refused(-5, () -> x.set(0, 1, 0));
        for (int k = 0; k < 6; k++) refused(-6, () -> x.tick(0));
        for (int k = 0; k < 7; k++) refused(-7, () -> x.row(0, 0, 101));
        int[] counts = {1, 3, 2, 4, 5, 6, 7};
        for (int k = 0; k < 7; k++) due(x.status(11 + k), counts[k]);
    }

    @Says(in = "Promise 26", words = "NONE for another what.")
    static void statusOfAnotherWhatIsNone() {
        for (int what = 5; what <= 10; what++) due(x.status(what), NONE);
        due(x.status(-1), NONE);
        due(x.status(18), NONE);
        for (int odd : ODD) due(x.status(odd), NONE);
    }
}
