import java.util.ArrayList;
import java.util.List;
import java.util.function.LongSupplier;

/** The document's REFUSALS, sentence by sentence: what each number is for, which one comes first, and that nothing changes. */
public final class RefusalSentencesTest extends Checks {
    /** Shelves of the world below: rows of bytes, of longs and of ints, a piece, and nothing. */
    private static final int BYTES = 0, LONGS = 1, INTS = 2, PIECE = 3, EMPTY = 4;

    public static void main(String[] args) {
        runAll(RefusalSentencesTest.class);
    }

    /** A floor on which something of everything is under way; 24 and all from 60 on are bare. */
    private static void world() {
        fresh();
        due(x.recipe(3, 2, 3, 1, 1, 0, 0, 5), 0);
        due(x.recipe(4, 1, 1, 3, 1, 5, 1, 0), 1);
        due(x.recipe(5, 1, 1, 4, 1, 0, 0, 0), 2);
        due(x.wish(3, 3, 2), 3);
        source(0, RIGHT, 1, 2);
        machine(1, RIGHT, 0);
        belt(2, RIGHT);
        sink(3);
        splitter(14, 6);
        due(x.row(BYTES, 0, 6), 1);
        fill(BYTES, 1, 2, 3);
        due(x.row(LONGS, 3, 5), 1);
        due(x.row(INTS, 2, 10), 1);
        fill(INTS, 60, BELT, 1, 0, 0, 61, 9, 1, 0, 0);
        due(x.take(PIECE, 0, 3, 2), 4);
        // work ends in ticks 6 and 9; two of each come over the belt, one each second tick: at 7, 9 and 11
        due(x.tick(11), 3);
        due(x.turn(100) > 0 ? 1 : 0, 1);
    }

    /** A good part of what can be asked. */
    private static List<Long> allThatIsTold() {
        List<Long> told = new ArrayList<>();
        for (int what = 0; what <= 4; what++) told.add((long) x.status(what));
        for (int cell : new int[] {0, 1, 2, 3, 14, 24, 60, 61}) {
            for (int what = 0; what <= 14; what++) told.add((long) x.part(cell, what));
        }
        for (int s = 0; s < 8; s++) {
            told.add((long) x.holds(s));
            for (int i = 0; i < 6; i++) told.add(x.element(s, i));
        }
        told.add((long) x.partsIn(PIECE));
        for (int what = 0; what <= 4; what++) told.add((long) x.turned(what));
        for (int what = 0; what <= 4; what++) told.add((long) x.cellTurn(1, what));
        for (int r = 0; r < 3; r++) told.add((long) x.machines(r));
        for (int item = 1; item <= 5; item++) {
            told.add((long) x.sunk(item));
            told.add(x.rate(item, false));
            told.add(x.rate(item, true));
        }
        return told;
    }

    /** Refused in the world above, and nothing changes but the count. */
    private static void refusedInWorld(int number, LongSupplier call) {
        world();
        List<Long> before = allThatIsTold();
        refused(number, call);
        List<Long> after = allThatIsTold();
        for (int k = 0; k < before.size(); k++) due(after.get(k), before.get(k));
    }

    // ---- the numbers

    @Says(in = "REFUSALS", words = {"REFUSALS (the call answers the number; nothing changes but how many there were;",
        "-1 NOBODY: no such SHELF, CELL, RECIPE."})
    static void nobody() {
        for (int out : new int[] {-1, 8}) {
            refusedInWorld(-1, () -> x.builds(out));
            refusedInWorld(-1, () -> x.row(out, 0, 1));
            refusedInWorld(-1, () -> x.set(out, 0, 1));
            refusedInWorld(-1, () -> x.copy(out, BYTES, 0, 0, 1));
            refusedInWorld(-1, () -> x.copy(BYTES, out, 0, 0, 1));
            refusedInWorld(-1, () -> x.clear(out));
            refusedInWorld(-1, () -> x.take(out, 0, 1, 1));
            refusedInWorld(-1, () -> x.put(out, 60, 0));
            refusedInWorld(-1, () -> x.partsIn(out));
        }
        for (int out : new int[] {-1, 144}) {
            refusedInWorld(-1, () -> x.build(out, BELT, 0, 0, 0));
            refusedInWorld(-1, () -> x.raze(out));
            refusedInWorld(-1, () -> x.take(BYTES, out, 1, 1));
            refusedInWorld(-1, () -> x.put(PIECE, out, 0));
            refusedInWorld(-1, () -> x.lay(out, 3));
            refusedInWorld(-1, () -> x.lay(0, out));
        }
        for (int out : new int[] {-1, 3, 8}) refusedInWorld(-1, () -> x.build(60, MACHINE, 0, out, 0));
    }

    @Says(in = "REFUSALS", words = {"nothing changes but how many there were;",
        "-2 OTHER: a SHELF that holds a PIECE where a ROW is wanted, or the other way about, or ROWS of two SORTS."})
    static void other() {
        refusedInWorld(-2, () -> x.builds(PIECE));
        refusedInWorld(-2, () -> x.set(PIECE, 0, 1));
        refusedInWorld(-2, () -> x.copy(PIECE, BYTES, 0, 0, 1));
        refusedInWorld(-2, () -> x.copy(BYTES, PIECE, 0, 0, 1));
        refusedInWorld(-2, () -> x.copy(PIECE, PIECE, 0, 0, 1));
        refusedInWorld(-2, () -> x.put(BYTES, 60, 0));
        refusedInWorld(-2, () -> x.partsIn(BYTES));
        refusedInWorld(-2, () -> x.copy(BYTES, LONGS, 0, 0, 1));
        refusedInWorld(-2, () -> x.copy(LONGS, BYTES, 0, 0, 1));
    }

    @Says(in = "REFUSALS", words = {"nothing changes but how many there were;", "-3 NOTHING: a SHELF that holds NOTHING."})
    static void nothing() {
        refusedInWorld(-3, () -> x.builds(EMPTY));
        refusedInWorld(-3, () -> x.set(EMPTY, 0, 1));
        refusedInWorld(-3, () -> x.copy(EMPTY, BYTES, 0, 0, 1));
        refusedInWorld(-3, () -> x.copy(BYTES, EMPTY, 0, 0, 1));
        refusedInWorld(-3, () -> x.copy(EMPTY, EMPTY, 0, 0, 1));
        refusedInWorld(-3, () -> x.put(EMPTY, 60, 0));
        refusedInWorld(-3, () -> x.partsIn(EMPTY));
    }

    @Says(in = "REFUSALS", words = {"nothing changes but how many there were;", "-4 BELOW: a size below 0."})
    static void below() {
        refusedInWorld(-4, () -> x.row(BYTES, 0, -1));
        refusedInWorld(-4, () -> x.copy(BYTES, BYTES, 0, 0, -1));
        refusedInWorld(-4, () -> x.take(BYTES, 0, -1, 1));
        refusedInWorld(-4, () -> x.take(BYTES, 0, 1, -1));
        for (int odd : ODD) {
            if (odd < 0) {
                refusedInWorld(-4, () -> x.row(BYTES, 0, odd));
                refusedInWorld(-4, () -> x.copy(BYTES, BYTES, 0, 0, odd));
                refusedInWorld(-4, () -> x.take(BYTES, 0, odd, 1));
                refusedInWorld(-4, () -> x.take(BYTES, 0, 1, odd));
            }
        }
    }

    @Says(in = "REFUSALS", words = {"nothing changes but how many there were;", "-5 BEYOND: an element that isn't there."})
    static void beyond() {
        for (int out : new int[] {-1, 6, 100}) {
            refusedInWorld(-5, () -> x.set(BYTES, out, 1));
            refusedInWorld(-5, () -> x.copy(BYTES, BYTES, out, 0, 1));
            refusedInWorld(-5, () -> x.copy(BYTES, BYTES, 0, out, 1));
        }
        for (int odd : ODD) {
            refusedInWorld(-5, () -> x.set(BYTES, odd, 1));
            refusedInWorld(-5, () -> x.copy(BYTES, BYTES, odd, 0, 1));
            refusedInWorld(-5, () -> x.copy(BYTES, BYTES, 0, odd, 1));
            if (odd > 0) refusedInWorld(-5, () -> x.copy(BYTES, BYTES, 1, 1, odd));
        }
    }

    @Says(in = "REFUSALS", words = {"nothing changes but how many there were;",
        "-6 WRONG: a number that may not be, a CELL that isn't BARE (or is)."})
    static void wrong() {
        refusedInWorld(-6, () -> x.recipe(3, 1, 1, 1, 1, 0, 0, 0));
        refusedInWorld(-6, () -> x.recipe(9, 9, 1, 1, 1, 0, 0, 0));
        refusedInWorld(-6, () -> x.build(60, 9, 0, 0, 0));
        refusedInWorld(-6, () -> x.build(2, BELT, 0, 0, 0));
        refusedInWorld(-6, () -> x.builds(INTS));
        refusedInWorld(-6, () -> x.builds(BYTES));
        refusedInWorld(-6, () -> x.row(BYTES, 4, 1));
        refusedInWorld(-6, () -> x.take(BYTES, 0, 0, 1));
        refusedInWorld(-6, () -> x.take(PIECE, 11, 2, 1));
        refusedInWorld(-6, () -> x.put(PIECE, 60, 4));
        refusedInWorld(-6, () -> x.put(PIECE, 1, 0));
        refusedInWorld(-6, () -> x.put(PIECE, 11, 0));
        refusedInWorld(-6, () -> x.tick(0));
        refusedInWorld(-6, () -> x.turn(0));
        refusedInWorld(-6, () -> x.wish(3, 0, 1));
        refusedInWorld(-6, () -> x.wish(4, 1, 1));
        refusedInWorld(-6, () -> x.lay(3, 0));
        refusedInWorld(-6, () -> x.lay(60, 3));
    }

    @Says(in = "REFUSALS", words = {"nothing changes but how many there were;", "-7 ROOM: more than may be."})
    static void room() {
        refusedInWorld(-7, () -> x.row(BYTES, 0, 101));
        refusedInWorld(-7, () -> x.row(PIECE, 0, MOST));
        world();
        for (int r = 3; r < 8; r++) due(x.recipe(10 + r, 1, 1, 1, 1, 0, 0, 0), r);
        List<Long> before = allThatIsTold();
        refused(-7, () -> x.recipe(9, 1, 1, 1, 1, 0, 0, 0));
        List<Long> after = allThatIsTold();
        for (int k = 0; k < before.size(); k++) due(after.get(k), before.get(k));
    }

    @Says(in = "REFUSALS", words = {"nothing changes but how many there were;", "-7 ROOM: more than may be."})
    static void noRoomForMoreTicks() {
        source(0, RIGHT, 1, 7);
        belt(1, RIGHT);
        belt(2, DOWN);
        for (int k = 0; k < 99; k++) due(x.tick(200), 0);
        due(x.tick(199), 0);
        int[] cells = {0, 1, 2};
        int[] told = new int[45];
        for (int k = 0; k < told.length; k++) told[k] = x.part(cells[k / 15], k % 15);
        refused(-7, () -> x.tick(2));
        refused(-7, () -> x.tick(200));
        for (int k = 0; k < told.length; k++) due(x.part(cells[k / 15], k % 15), told[k]);
        due(x.status(2), 19999);
        due(x.tick(1), 0);
        refused(-7, () -> x.tick(1));
        due(x.status(2), 20000);
    }

    // ---- the order

    @Says(in = "REFUSALS", words = "the first that fits, in this order):")
    static void nobodyComesAheadOfAllOthers() {
        refusedInWorld(-1, () -> x.build(144, 9, 9, 99, 99));
        refusedInWorld(-1, () -> x.build(2, MACHINE, 9, 3, 0));
        refusedInWorld(-1, () -> x.row(8, 9, -1));
        refusedInWorld(-1, () -> x.row(8, 9, 101));
        refusedInWorld(-1, () -> x.row(8, 0, 101));
        refusedInWorld(-1, () -> x.copy(8, PIECE, -1, -1, -1));
        refusedInWorld(-1, () -> x.copy(PIECE, 8, 0, 0, 1));
        refusedInWorld(-1, () -> x.copy(EMPTY, 8, 0, 0, 1));
        refusedInWorld(-1, () -> x.copy(8, EMPTY, 0, 0, 1));
        refusedInWorld(-1, () -> x.take(8, 0, -1, 1));
        refusedInWorld(-1, () -> x.take(0, 144, 0, -1));
        refusedInWorld(-1, () -> x.take(0, 144, 0, 99));
        refusedInWorld(-1, () -> x.put(BYTES, 144, 4));
        refusedInWorld(-1, () -> x.put(EMPTY, 144, 4));
        refusedInWorld(-1, () -> x.put(PIECE, 144, 4));
        refusedInWorld(-1, () -> x.put(8, 0, 4));
        refusedInWorld(-1, () -> x.lay(144, 144));
        refusedInWorld(-1, () -> x.lay(3, 144));
        refusedInWorld(-1, () -> x.lay(-1, 60));
    }

    @Says(in = "REFUSALS", words = "the first that fits, in this order):")
    static void otherComesAheadOfNothingAndTheRest() {
        refusedInWorld(-2, () -> x.copy(PIECE, EMPTY, -1, -1, -1));
        refusedInWorld(-2, () -> x.copy(EMPTY, PIECE, -1, -1, -1));
        refusedInWorld(-2, () -> x.copy(BYTES, LONGS, -1, -1, -1));
        refusedInWorld(-2, () -> x.copy(BYTES, LONGS, -1, 0, 1));
        refusedInWorld(-2, () -> x.set(PIECE, -1, 0));
        refusedInWorld(-2, () -> x.put(BYTES, 0, 4));
    }

    @Says(in = "REFUSALS", words = "the first that fits, in this order):")
    static void nothingComesAheadOfSizesAndNumbers() {
        refusedInWorld(-3, () -> x.copy(EMPTY, BYTES, 0, 0, -1));
        refusedInWorld(-3, () -> x.copy(BYTES, EMPTY, 0, 0, -1));
        refusedInWorld(-3, () -> x.copy(BYTES, EMPTY, 9, 9, 9));
        refusedInWorld(-3, () -> x.set(EMPTY, -1, 0));
        refusedInWorld(-3, () -> x.put(EMPTY, 0, 4));
    }

    @Says(in = "REFUSALS", words = "the first that fits, in this order):")
    static void belowComesAheadOfBeyondAndWrong() {
        refusedInWorld(-4, () -> x.copy(BYTES, BYTES, -1, -1, -1));
        refusedInWorld(-4, () -> x.copy(BYTES, BYTES, 7, 0, -1));
        refusedInWorld(-4, () -> x.row(BYTES, 4, -1));
        refusedInWorld(-4, () -> x.row(BYTES, -1, LEAST));
        refusedInWorld(-4, () -> x.take(BYTES, 0, -1, 0));
        refusedInWorld(-4, () -> x.take(BYTES, 0, 0, -1));
        refusedInWorld(-4, () -> x.take(BYTES, 143, 2, -1));
    }

    @Says(in = "REFUSALS", words = "the first that fits, in this order):")
    static void wrongComesAheadOfRoom() {
        refusedInWorld(-6, () -> x.row(BYTES, 4, 101));
        refusedInWorld(-6, () -> x.row(BYTES, -1, MOST));
        world();
        for (int r = 3; r < 8; r++) due(x.recipe(10 + r, 1, 1, 1, 1, 0, 0, 0), r);
        refused(-6, () -> x.recipe(13, 1, 1, 1, 1, 0, 0, 0));
        refused(-6, () -> x.recipe(9, 0, 1, 1, 1, 0, 0, 0));
        refused(-6, () -> x.recipe(9, 1, 1, 9, 1, 0, 0, 0));
        refused(-7, () -> x.recipe(9, 1, 1, 1, 1, 0, 0, 0));
        fresh();
        for (int k = 0; k < 100; k++) due(x.tick(200), 0);
        refused(-6, () -> x.tick(0));
        refused(-6, () -> x.tick(201));
        refused(-6, () -> x.tick(-1));
        refused(-7, () -> x.tick(1));
    }

    @Says(in = "REFUSALS", words = "nothing changes but how many there were;")
    static void whatIsNotRefusedIsNotCounted() {
        for (int odd : ODD) {
            due(x.element(odd, odd), 0);
            due(x.holds(odd), NONE);
            due(x.turned(odd), NONE);
            due(x.cellTurn(odd, odd), NONE);
            due(x.part(odd, odd), NONE);
            due(x.sunk(odd), 0);
            due(x.machines(odd), 0);
            due(x.rate(odd, false), 0);
            due(x.path(odd, odd), NONE);
            due(x.status(odd), NONE);
        }
        for (int what = 11; what <= 17; what++) due(x.status(what), 0);
    }
}
