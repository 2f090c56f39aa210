/** The document's promises 6 to 14 (rows and pieces), sentence by sentence. */
public final class ShelfSentencesTest extends Checks {
    public static void main(String[] args) {
        runAll(ShelfSentencesTest.class);
    }

    // ---- promise 6

    @Says(in = "Promise 6", words = "SHELF s holds a new ROW: 1.")
    static void aNewRowTakesThePlaceOfWhatWasThere() {
        for (int sort = 0; sort < 4; sort++) {
            due(x.row(7, sort, 3), 1);
            due(x.holds(7), 100 + sort);
            fill(7, 1, 2, 3);
            due(x.row(7, sort, 5), 1);
            holdsElements(7, 0, 0, 0, 0, 0);
            due(x.set(7, 4, 9), 1);
            refused(-5, () -> x.set(7, 5, 9));
            due(x.row(7, sort, 2), 1);
            refused(-5, () -> x.set(7, 2, 9));
        }
        due(x.take(7, 0, 1, 1), 0);
        due(x.row(7, 2, 0), 1);
        due(x.holds(7), 102);
        refused(-2, () -> x.partsIn(7));
        for (int s = 0; s < 7; s++) due(x.holds(s), NONE);
    }

    @Says(in = "Promise 6", words = "-1; -4; -6 SORT; -7 n above 100.")
    static void aRowThatMayNotBeIsRefused() {
        refused(-1, () -> x.row(-1, 0, 1));
        refused(-1, () -> x.row(8, 0, 1));
        refused(-4, () -> x.row(0, 0, -1));
        refused(-6, () -> x.row(0, -1, 1));
        refused(-6, () -> x.row(0, 4, 1));
        refused(-7, () -> x.row(0, 0, 101));
        for (int odd : ODD) {
            refused(-1, () -> x.row(odd, 0, 1));
            refused(-6, () -> x.row(0, odd, 1));
            refused(odd < 0 ? -4 : -7, () -> x.row(0, 0, odd));
        }
        due(x.holds(0), NONE);
        due(x.row(0, 0, 0), 1);
        due(x.row(7, 3, 100), 1);
    }

    @Says(in = "Promise 6", words = "-1; -4; -6 SORT; -7 n above 100.")
    static void aRefusedRowLeavesWhatTheShelfHolds() {
        due(x.row(0, 1, 2), 1);
        fill(0, 5, 6);
        refused(-7, () -> x.row(0, 2, 101));
        refused(-6, () -> x.row(0, 4, 2));
        refused(-4, () -> x.row(0, 2, -1));
        due(x.holds(0), 101);
        holdsElements(0, 5, 6);
        sink(0);
        due(x.take(1, 0, 1, 1), 1);
        refused(-7, () -> x.row(1, 2, 101));
        due(x.partsIn(1), 1);
    }

    // ---- promise 7

    @Says(in = "Promise 7", words = "Element i of the ROW becomes v: 1.")
    static void setChangesOneElement() {
        due(x.row(0, 3, 3), 1);
        due(x.row(1, 3, 3), 1);
        due(x.set(0, 1, Long.MIN_VALUE), 1);
        holdsElements(0, 0, Long.MIN_VALUE, 0);
        due(x.set(0, 0, Long.MAX_VALUE), 1);
        due(x.set(0, 2, -1), 1);
        holdsElements(0, Long.MAX_VALUE, Long.MIN_VALUE, -1);
        due(x.set(0, 1, 0), 1);
        holdsElements(0, Long.MAX_VALUE, 0, -1);
        holdsElements(1, 0, 0, 0);
    }

    @Says(in = "Promise 7", words = "-1; -2; -3; -5.")
    static void setOfNoElementIsRefused() {
        refused(-1, () -> x.set(-1, 0, 1));
        refused(-1, () -> x.set(8, 0, 1));
        refused(-3, () -> x.set(0, 0, 1));
        due(x.take(0, 0, 1, 1), 0);
        refused(-2, () -> x.set(0, 0, 1));
        due(x.row(0, 3, 100), 1);
        refused(-5, () -> x.set(0, -1, 1));
        refused(-5, () -> x.set(0, 100, 1));
        for (int odd : ODD) {
            refused(-1, () -> x.set(odd, 0, 1));
            refused(-5, () -> x.set(0, odd, 1));
        }
        due(x.set(0, 99, 1), 1);
        due(x.set(0, 0, 1), 1);
        due(x.row(0, 3, 0), 1);
        refused(-5, () -> x.set(0, 0, 1));
        due(x.clear(0), 1);
        refused(-3, () -> x.set(0, 0, 1));
    }

    // ---- promise 8

    @Says(in = "Promise 8",
        words = "Elements i, i + 1, .. of the ROW in SHELF p, n of them, come to elements j, j + 1, .. of that in q")
    static void copyPutsElementsIntoAnotherRow() {
        for (int sort = 0; sort < 4; sort++) {
            due(x.row(0, sort, 5), 1);
            due(x.row(1, sort, 7), 1);
            fill(0, 1, 2, -3, 4, 5);
            fill(1, 11, 12, 13, 14, 15, 16, 17);
            due(x.copy(0, 1, 1, 4, 3), 1);
            holdsElements(1, 11, 12, 13, 14, 2, -3, 4);
            holdsElements(0, 1, 2, -3, 4, 5);
            due(x.copy(1, 0, 0, 0, 5), 1);
            holdsElements(0, 11, 12, 13, 14, 2);
        }
    }

    @Says(in = "Promise 8", words = "(as they were ahead): 1.")
    static void copyWithinOneRowTakesElementsAsTheyWere() {
        due(x.row(0, 2, 6), 1);
        fill(0, 1, 2, 3, 4, 5, 6);
        due(x.copy(0, 0, 0, 1, 5), 1);
        holdsElements(0, 1, 1, 2, 3, 4, 5);
        fill(0, 1, 2, 3, 4, 5, 6);
        due(x.copy(0, 0, 1, 0, 5), 1);
        holdsElements(0, 2, 3, 4, 5, 6, 6);
        fill(0, 1, 2, 3, 4, 5, 6);
        due(x.copy(0, 0, 2, 2, 4), 1);
        holdsElements(0, 1, 2, 3, 4, 5, 6);
    }

    @Says(in = "Promise 8", words = "n of them, come to elements j,")
    static void copyOfNoneChangesNothing() {
        due(x.row(0, 2, 2), 1);
        due(x.row(1, 2, 3), 1);
        fill(0, 1, 2);
        fill(1, 3, 4, 5);
        due(x.copy(0, 1, 0, 0, 0), 1);
        // the ends, behind the last elements, are there for none
        due(x.copy(0, 1, 2, 3, 0), 1);
        refused(-5, () -> x.copy(0, 1, 3, 3, 0));
        refused(-5, () -> x.copy(0, 1, 2, 4, 0));
        refused(-5, () -> x.copy(0, 1, -1, 0, 0));
        refused(-5, () -> x.copy(0, 1, 0, -1, 0));
        holdsElements(0, 1, 2);
        holdsElements(1, 3, 4, 5);
        due(x.row(2, 2, 0), 1);
        due(x.copy(2, 2, 0, 0, 0), 1);
        due(x.copy(2, 1, 0, 0, 0), 1);
    }

    @Says(in = "Promise 8", words = "-1; -2 also of two SORTS (when both hold something);")
    static void copyOfOtherThingsIsRefused() {
        for (int sort = 0; sort < 4; sort++) due(x.row(sort, sort, 2), 1);
        for (int p = 0; p < 4; p++) {
            for (int q = 0; q < 4; q++) {
                int from = p;
                int to = q;
                if (p == q) due(x.copy(p, q, 0, 0, 2), 1);
                else refused(-2, () -> x.copy(from, to, 0, 0, 2));
            }
        }
        due(x.take(4, 0, 1, 1), 0);
        refused(-2, () -> x.copy(0, 4, 0, 0, 1));
        refused(-2, () -> x.copy(4, 0, 0, 0, 1));
        refused(-2, () -> x.copy(4, 4, 0, 0, 1));
        // a piece and nothing: a row is wanted where the piece is
        refused(-2, () -> x.copy(5, 4, 0, 0, 1));
        refused(-2, () -> x.copy(4, 5, 0, 0, 1));
        // two sorts only count when both hold something
        refused(-3, () -> x.copy(0, 5, 0, 0, 1));
        refused(-3, () -> x.copy(5, 3, 0, 0, 1));
        refused(-1, () -> x.copy(-1, 0, 0, 0, 1));
        refused(-1, () -> x.copy(0, 8, 0, 0, 1));
        for (int odd : ODD) {
            refused(-1, () -> x.copy(odd, 0, 0, 0, 1));
            refused(-1, () -> x.copy(0, odd, 0, 0, 1));
        }
    }

    @Says(in = "Promise 8", words = "-3 either; -4 n;")
    static void copyOfNothingOrFewerThanNoneIsRefused() {
        due(x.row(0, 2, 2), 1);
        refused(-3, () -> x.copy(0, 1, 0, 0, 1));
        refused(-3, () -> x.copy(1, 0, 0, 0, 1));
        refused(-3, () -> x.copy(1, 1, 0, 0, 1));
        // what once was a row of another sort is nothing now
        due(x.row(1, 3, 2), 1);
        due(x.clear(1), 1);
        refused(-3, () -> x.copy(0, 1, 0, 0, 1));
        due(x.row(1, 2, 2), 1);
        refused(-4, () -> x.copy(0, 1, 0, 0, -1));
        refused(-4, () -> x.copy(0, 1, 0, 0, LEAST));
        due(x.copy(0, 1, 0, 0, 0), 1);
    }

    @Says(in = "Promise 8", words = "-5 i or j below 0, or an end that isn't there.")
    static void copyBeyondARowIsRefused() {
        due(x.row(0, 2, 5), 1);
        due(x.row(1, 2, 3), 1);
        fill(0, 1, 2, 3, 4, 5);
        refused(-5, () -> x.copy(0, 1, -1, 0, 1));
        refused(-5, () -> x.copy(0, 1, 0, -1, 1));
        refused(-5, () -> x.copy(0, 1, 5, 0, 1));
        refused(-5, () -> x.copy(0, 1, 3, 0, 3));
        refused(-5, () -> x.copy(0, 1, 0, 0, 4));
        refused(-5, () -> x.copy(0, 1, 0, 1, 3));
        refused(-5, () -> x.copy(0, 1, 0, 3, 1));
        for (int odd : ODD) {
            refused(-5, () -> x.copy(0, 1, odd, 0, 1));
            refused(-5, () -> x.copy(0, 1, 0, odd, 1));
            refused(-5, () -> x.copy(0, 1, odd, odd, MOST));
            refused(odd < 0 ? -4 : -5, () -> x.copy(0, 1, 1, 1, odd));
        }
        holdsElements(1, 0, 0, 0);
        due(x.copy(0, 1, 2, 0, 3), 1);
        holdsElements(1, 3, 4, 5);
        due(x.copy(0, 1, 0, 2, 1), 1);
        holdsElements(1, 3, 4, 1);
    }

    // ---- promise 9

    @Says(in = "Promise 9", words = "Element i of the ROW; 0 if there is none (nothing is refused).")
    static void elementOfNoElementIsZero() {
        due(x.element(0, 0), 0);
        due(x.row(0, 3, 100), 1);
        due(x.set(0, 0, 5), 1);
        due(x.set(0, 99, 6), 1);
        due(x.element(0, 0), 5);
        due(x.element(0, 99), 6);
        for (int i : new int[] {-1, 100, 101}) due(x.element(0, i), 0);
        for (int s : new int[] {-1, 8}) due(x.element(s, 0), 0);
        for (int odd : ODD) {
            due(x.element(0, odd), 0);
            due(x.element(odd, 0), 0);
        }
        // behind the end of a shorter row, of nothing, of a piece
        due(x.row(0, 3, 1), 1);
        due(x.set(0, 0, 7), 1);
        due(x.element(0, 99), 0);
        due(x.clear(0), 1);
        due(x.element(0, 0), 0);
        due(x.row(0, 3, 1), 1);
        due(x.set(0, 0, 7), 1);
        due(x.take(0, 0, 1, 1), 0);
        due(x.element(0, 0), 0);
    }

    // ---- promise 10

    @Says(in = "Promise 10", words = "SHELF s holds NOTHING: 1 if it held something, else 0.")
    static void clearTellsWhetherTheShelfHeldSomething() {
        for (int s = 0; s < 8; s++) {
            due(x.clear(s), 0);
            due(x.row(s, 0, 0), 1);
            due(x.clear(s), 1);
            due(x.holds(s), NONE);
            due(x.clear(s), 0);
            due(x.take(s, 0, 1, 1), 0);
            due(x.clear(s), 1);
            due(x.holds(s), NONE);
            due(x.clear(s), 0);
        }
    }

    @Says(in = "Promise 10", words = "else 0. -1.")
    static void clearOfNoShelfIsRefused() {
        refused(-1, () -> x.clear(-1));
        refused(-1, () -> x.clear(8));
        for (int odd : ODD) refused(-1, () -> x.clear(odd));
    }

    // ---- promise 11

    @Says(in = "Promise 11", words = "What SHELF s holds: NONE NOTHING, or no such SHELF; 0 a PIECE; 100 and the SORT of a ROW.")
    static void holdsTellsWhatAShelfHolds() {
        for (int s = 0; s < 8; s++) {
            due(x.holds(s), NONE);
            for (int sort = 0; sort < 4; sort++) {
                due(x.row(s, sort, sort), 1);
                due(x.holds(s), 100 + sort);
            }
            due(x.take(s, 0, 1, 1), 0);
            due(x.holds(s), 0);
            due(x.clear(s), 1);
            due(x.holds(s), NONE);
        }
        due(x.holds(-1), NONE);
        due(x.holds(8), NONE);
        for (int odd : ODD) due(x.holds(odd), NONE);
    }

    // ---- promise 12

    @Says(in = "Promise 12",
        words = "SHELF s holds a PIECE: the PARTS of w by h CELLS, cell being that of the least x and y: how many PARTS")
    static void takeTellsThePartsOfItsCells() {
        // a ring of sinks round (4, 4) to (6, 5), and one belt within
        for (int row = 3; row <= 6; row++) {
            for (int column = 3; column <= 7; column++) {
                if (row == 3 || row == 6 || column == 3 || column == 7) sink(at(column, row));
            }
        }
        belt(at(6, 5), LEFT);
        due(x.take(0, at(4, 4), 3, 2), 1);
        due(x.take(1, at(4, 4), 2, 2), 0);
        due(x.take(2, at(3, 3), 5, 4), 15);
        due(x.take(3, at(4, 4), 4, 2), 3);
        due(x.take(4, at(4, 4), 3, 3), 4);
        due(x.take(5, at(3, 4), 4, 2), 3);
        due(x.take(6, at(4, 3), 3, 3), 4);
        due(x.holds(0), 0);
        due(x.status(0), 15);
    }

    @Says(in = "Promise 12", words = "the PARTS of w by h CELLS,")
    static void theWholeFloorCanBeTaken() {
        for (int cell = 0; cell < 144; cell++) belt(cell, cell % 4);
        due(x.take(0, 0, 12, 12), 144);
        due(x.partsIn(0), 144);
        due(x.take(1, 143, 1, 1), 1);
        due(x.take(2, 11, 1, 12), 12);
        due(x.take(3, 132, 12, 1), 12);
        for (int cell = 0; cell < 144; cell++) due(x.raze(cell), BELT);
        due(x.partsIn(0), 144);
        due(x.put(0, 0, 2), 144);
        // the belt of cell 0 is turned by two and lies in the last cell
        tells(143, 0, BELT, 1, 2);
        tells(0, 0, BELT, 1, (143 % 4 + 2) % 4);
    }

    @Says(in = "Promise 12", words = "(their ITEMS and all else that changes in TICKS aren't of it).")
    static void whatChangesInTicksIsNotOfAPiece() {
        due(x.recipe(3, 1, 5, 1, 1, 0, 0, 0), 0);
        source(at(0, 0), RIGHT, 1, 3);
        splitter(at(1, 0), 6);
        machine(at(2, 0), RIGHT, 0);
        belt(at(1, 1), DOWN);
        due(x.tick(44), 0);
        due(x.take(0, 0, 3, 2), 4);
        due(x.put(0, at(6, 6), 0), 4);
        for (int cell : new int[] {at(6, 6), at(7, 6), at(8, 6), at(7, 7)}) {
            for (int what = 2; what <= 8; what++) due(x.part(cell, what), 0);
            tells(cell, 9, 3, 10, 3, 13, 0, 14, 0);
        }
        tells(at(6, 6), 0, SOURCE, 1, RIGHT, 11, 1, 12, 3);
        tells(at(7, 6), 0, SPLITTER, 1, 6);
        tells(at(8, 6), 0, MACHINE, 1, RIGHT, 11, 0);
        // those on the floor keep theirs
        due(x.part(at(1, 1), 13) > 0 ? 1 : 0, 1);
    }

    @Says(in = "Promise 12", words = "SHELF s holds a PIECE:")
    static void aPieceStaysAsItWasTaken() {
        sink(0);
        due(x.row(0, 0, 3), 1);
        due(x.take(0, 0, 2, 2), 1);
        due(x.holds(0), 0);
        belt(1, DOWN);
        due(x.raze(0), SINK);
        due(x.partsIn(0), 1);
        due(x.put(0, 50, 0), 1);
        due(x.part(50, 0), SINK);
        due(x.part(51, 0), 0);
        due(x.take(0, 0, 2, 2), 1);
        due(x.put(0, 100, 0), 1);
        tells(100, 0, 0);
        tells(101, 0, BELT, 1, DOWN);
    }

    @Says(in = "Promise 12", words = "-1 either; -4 w or h; -6 w or h is 0, or it is not all on the floor.")
    static void aPieceThatIsNoneIsRefused() {
        refused(-1, () -> x.take(-1, 0, 1, 1));
        refused(-1, () -> x.take(8, 0, 1, 1));
        refused(-1, () -> x.take(0, -1, 1, 1));
        refused(-1, () -> x.take(0, 144, 1, 1));
        refused(-4, () -> x.take(0, 0, -1, 1));
        refused(-4, () -> x.take(0, 0, 1, -1));
        refused(-6, () -> x.take(0, 0, 0, 1));
        refused(-6, () -> x.take(0, 0, 1, 0));
        refused(-6, () -> x.take(0, 0, 0, 0));
        for (int odd : ODD) {
            refused(-1, () -> x.take(odd, 0, 1, 1));
            refused(-1, () -> x.take(0, odd, 1, 1));
            refused(odd < 0 ? -4 : -6, () -> x.take(0, 0, odd, 1));
            refused(odd < 0 ? -4 : -6, () -> x.take(0, 0, 1, odd));
        }
        due(x.holds(0), NONE);
    }

    @Says(in = "Promise 12", words = "or it is not all on the floor.")
    static void aPieceThatIsNotAllOnTheFloorIsRefused() {
        for (int k = 0; k < 12; k++) {
            int cell = at(k, k);
            int most = 12 - k;
            due(x.take(0, cell, most, most), 0);
            refused(-6, () -> x.take(0, cell, most + 1, 1));
            refused(-6, () -> x.take(0, cell, 1, most + 1));
        }
        refused(-6, () -> x.take(0, 0, 13, 12));
        refused(-6, () -> x.take(0, 0, 12, 13));
        refused(-6, () -> x.take(0, 1, 12, 1));
        refused(-6, () -> x.take(0, 12, 1, 12));
        due(x.take(0, 11, 1, 12), 0);
        due(x.take(0, 132, 12, 1), 0);
    }

    // ---- promise 13

    /** A piece of 3 by 2 on shelf 0: a source at its (0, 0), a splitter at (1, 0), a belt at (2, 1); the floor is bare again. */
    private static void takeThreeByTwo() {
        source(at(0, 0), UP, 4, 9);
        splitter(at(1, 0), 1 + 2 + 8);
        belt(at(2, 1), LEFT);
        due(x.take(0, 0, 3, 2), 3);
        for (int cell : new int[] {at(0, 0), at(1, 0), at(2, 1)}) due(x.raze(cell) > 0 ? 1 : 0, 1);
    }

    @Says(in = "Promise 13", words = {"The PIECE in SHELF s, turned (0 to 3 quarters, SIDE 0 to SIDE 1),",
        "is put so that cell is its CELL of the least x and y:"})
    static void aPieceIsTurnedByQuarters() {
        // where the three parts come to, in the turned piece, and the splitter's outs (0, 1, 3; 1, 2, 0; 2, 3, 1; 3, 0, 2)
        int[][] places = {{0, 0, 1, 0, 2, 1}, {1, 0, 1, 1, 0, 2}, {2, 1, 1, 1, 0, 0}, {0, 2, 0, 1, 1, 0}};
        int[] outs = {11, 7, 14, 13};
        for (int turns = 0; turns < 4; turns++) {
            fresh();
            takeThreeByTwo();
            due(x.put(0, at(4, 5), turns), 3);
            due(x.status(0), 3);
            int[] p = places[turns];
            tells(at(4 + p[0], 5 + p[1]), 0, SOURCE, 1, turns, 11, 4, 12, 9);
            tells(at(4 + p[2], 5 + p[3]), 0, SPLITTER, 1, outs[turns]);
            tells(at(4 + p[4], 5 + p[5]), 0, BELT, 1, (LEFT + turns) % 4);
        }
    }

    @Says(in = "Promise 13", words = "turned (0 to 3 quarters, SIDE 0 to SIDE 1),")
    static void everySetOfOutsIsTurned() {
        int[] outs = {3, 5, 6, 7, 9, 10, 11, 12, 13, 14};
        int[] byOne = {6, 10, 12, 14, 3, 5, 7, 9, 11, 13};
        for (int k = 0; k < outs.length; k++) splitter(k, outs[k]);
        due(x.take(0, 0, 10, 1), 10);
        due(x.put(0, at(11, 1), 1), 10);
        for (int k = 0; k < outs.length; k++) due(x.part(at(11, 1 + k), 1), byOne[k]);
    }

    @Says(in = "Promise 13", words = "turned (0 to 3 quarters, SIDE 0 to SIDE 1),")
    static void aTurnedFloorWorksAsBefore() {
        // a source, a machine, a belt round a corner, a tunnel and an exit that leads out of the piece
        due(x.recipe(3, 1, 2, 1, 1, 0, 0, 0), 0);
        source(at(0, 0), RIGHT, 1, 2);
        machine(at(1, 0), RIGHT, 0);
        belt(at(2, 0), DOWN);
        tunnel(at(2, 1), LEFT);
        exit(at(0, 1), LEFT);
        due(x.take(0, 0, 3, 2), 5);
        for (int cell : new int[] {at(0, 0), at(1, 0), at(2, 0), at(2, 1), at(0, 1)}) due(x.raze(cell) > 0 ? 1 : 0, 1);
        int[] ends = {at(4, 6), at(5, 4), at(8, 5), at(6, 8)};
        for (int turns = 0; turns < 4; turns++) {
            due(x.put(0, at(5, 5), turns), 5);
            // item in tick 2, works in ticks 3 and 4, made in tick 5, on the belt, the tunnel, the exit, the sink in tick 8
            sink(ends[turns]);
            due(x.tick(7), 0);
            due(x.tick(1), 1);
            due(x.raze(ends[turns]), SINK);
            for (int row = 5; row <= 7; row++) {
                for (int column = 5; column <= 7; column++) x.raze(at(column, row));
            }
            due(x.status(0), 0);
        }
    }

    @Says(in = "Promise 13", words = "how many PARTS were built (as anew).")
    static void aPieceWithoutPartsBuildsNone() {
        sink(0);
        due(x.take(0, 1, 2, 2), 0);
        for (int turns = 0; turns < 4; turns++) due(x.put(0, 0, turns), 0);
        due(x.status(0), 1);
    }

    @Says(in = "Promise 13", words = "how many PARTS were built (as anew).")
    static void aPieceCanBePutAgainAndAgain() {
        takeThreeByTwo();
        due(x.put(0, at(0, 0), 0), 3);
        due(x.put(0, at(3, 0), 0), 3);
        due(x.put(0, at(9, 10), 0), 3);
        due(x.put(0, at(10, 0), 1), 3);
        due(x.put(0, at(0, 9), 3), 3);
        due(x.status(0), 15);
        due(x.partsIn(0), 3);
        due(x.holds(0), 0);
    }

    @Says(in = "Promise 13", words = "-1 either; -2; -3;")
    static void putOfNoPieceIsRefused() {
        refused(-1, () -> x.put(-1, 0, 0));
        refused(-1, () -> x.put(8, 0, 0));
        refused(-3, () -> x.put(0, 0, 0));
        due(x.row(0, 0, 0), 1);
        refused(-2, () -> x.put(0, 0, 0));
        sink(0);
        due(x.take(0, 0, 1, 1), 1);
        refused(-1, () -> x.put(0, -1, 0));
        refused(-1, () -> x.put(0, 144, 0));
        for (int odd : ODD) {
            refused(-1, () -> x.put(odd, 1, 0));
            refused(-1, () -> x.put(0, odd, 0));
        }
        due(x.put(0, 143, 0), 1);
        due(x.clear(0), 1);
        refused(-3, () -> x.put(0, 5, 0));
    }

    @Says(in = "Promise 13", words = "-6 turns,")
    static void turnsAreZeroToThree() {
        takeThreeByTwo();
        refused(-6, () -> x.put(0, 0, -1));
        refused(-6, () -> x.put(0, 0, 4));
        for (int odd : ODD) refused(-6, () -> x.put(0, 0, odd));
        due(x.status(0), 0);
        due(x.put(0, 0, 3), 3);
    }

    @Says(in = "Promise 13", words = "it is not all on the floor,")
    static void aPieceThatDoesNotFitOnTheFloorIsRefused() {
        takeThreeByTwo();
        for (int turns = 0; turns < 4; turns++) {
            int t = turns;
            int w = turns % 2 == 0 ? 3 : 2;
            int h = 5 - w;
            refused(-6, () -> x.put(0, at(13 - w, 0), t));
            refused(-6, () -> x.put(0, at(0, 13 - h), t));
            refused(-6, () -> x.put(0, 143, t));
            due(x.put(0, at(12 - w, 12 - h), turns), 3);
            for (int row = 12 - h; row < 12; row++) {
                for (int column = 12 - w; column < 12; column++) x.raze(at(column, row));
            }
        }
        due(x.status(0), 0);
        // its bare cells count, too: 2 by 2 with a sink in its first cell
        sink(0);
        due(x.take(1, 0, 2, 2), 1);
        refused(-6, () -> x.put(1, 11, 0));
        refused(-6, () -> x.put(1, 132, 0));
        refused(-6, () -> x.put(1, 143, 0));
        due(x.status(0), 1);
    }

    @Says(in = "Promise 13", words = "a CELL for one of its PARTS isn't BARE.")
    static void aPieceOverPartsIsRefused() {
        takeThreeByTwo();
        for (int cell : new int[] {at(0, 0), at(1, 0), at(2, 1)}) {
            sink(cell);
            refused(-6, () -> x.put(0, 0, 0));
            due(x.status(0), 1);
            due(x.raze(cell), SINK);
        }
        // parts where the piece is bare don't stand in its way
        for (int cell : new int[] {at(2, 0), at(0, 1), at(1, 1)}) sink(cell);
        due(x.put(0, 0, 0), 3);
        due(x.status(0), 6);
        due(x.part(at(1, 1), 0), SINK);
        refused(-6, () -> x.put(0, 0, 0));
    }

    // ---- promise 14

    @Says(in = "Promise 14", words = "How many PARTS the PIECE in SHELF s has. -1; -2; -3.")
    static void partsInTellsThePartsOfAPiece() {
        refused(-1, () -> x.partsIn(-1));
        refused(-1, () -> x.partsIn(8));
        for (int odd : ODD) refused(-1, () -> x.partsIn(odd));
        for (int s = 0; s < 8; s++) {
            int shelf = s;
            refused(-3, () -> x.partsIn(shelf));
        }
        due(x.row(7, 0, 100), 1);
        refused(-2, () -> x.partsIn(7));
        due(x.take(7, 0, 12, 12), 0);
        due(x.partsIn(7), 0);
        sink(143);
        due(x.partsIn(7), 0);
        due(x.take(7, 0, 12, 12), 1);
        due(x.partsIn(7), 1);
        due(x.clear(7), 1);
        refused(-3, () -> x.partsIn(7));
    }
}
