/** The document's "3. TURNS" and its promises 16 to 18, sentence by sentence. */
public final class TurnSentencesTest extends Checks {
    public static void main(String[] args) {
        runAll(TurnSentencesTest.class);
    }

    /** The turn is found with a limit of FIRST and LENGTH, and not with one less. */
    private static void turnIs(int first, int length) {
        if (first + length > 1) {
            due(x.turn(first + length - 1), 0);
            due(x.turned(0), NONE);
        }
        due(x.turn(first + length), length);
        due(x.turned(0), first);
        due(x.turned(1), length);
    }

    // ---- the state

    @Says(in = "3. TURNS", words = "The STATE: all PARTS with all that is told above (ITEMS,")
    static void itemsAreOfTheState() {
        // full behind the first tick, and it stays so
        source(0, RIGHT, 1, 1);
        turnIs(1, 1);
        // the belt fills in tick 1, the source in tick 2
        belt(1, RIGHT);
        turnIs(2, 1);
    }

    @Says(in = "3. TURNS", words = "(ITEMS, CLOCKS,")
    static void clocksAreOfTheState() {
        // nothing but the clock changes: each third item is given in the tick in which it comes
        source(0, RIGHT, 1, 3);
        sink(1);
        turnIs(0, 3);
        fresh();
        source(0, RIGHT, 1, 60);
        sink(1);
        turnIs(0, 60);
    }

    @Says(in = "3. TURNS", words = "CLOCKS, STORES, MADE,")
    static void storesAreOfTheState() {
        // 8 of item 1 come, one a tick, and then the source fills
        due(x.recipe(3, 1, 1, 1, 4, 2, 1, 0), 0);
        due(x.recipe(4, 1, 1, 2, 1, 1, 4, 0), 1);
        source(0, RIGHT, 1, 1);
        machine(1, RIGHT, 0);
        turnIs(9, 1);
        due(x.raze(1), MACHINE);
        machine(1, RIGHT, 1);
        turnIs(9, 1);
    }

    @Says(in = "3. TURNS", words = "CLOCKS, STORES, MADE,")
    static void storesAreToldApartWhenTheOtherOneIsFull() {
        due(x.recipe(3, 1, 60, 1, 4, 2, 4, 0), 0);
        machine(1, RIGHT, 0);
        source(13, UP, 2, 1);
        due(x.tick(9), 0);
        due(x.raze(13), SOURCE);
        tells(1, 7, 0, 8, 8);
        // four of item 1 come in ticks 1 to 4; work begins in ticks 5 and 65 and ends in 65 and 125
        source(0, RIGHT, 1, 1);
        turnIs(125, 1);
    }

    @Says(in = "3. TURNS", words = "CLOCKS, STORES, MADE,")
    static void storesAreToldApartWhenMadeIsFull() {
        due(x.recipe(3, 4, 1, 1, 1, 2, 1, 0), 0);
        machine(1, RIGHT, 0);
        for (int k = 0; k < 2; k++) {
            source(0, RIGHT, 1, 1);
            due(x.tick(1), 0);
            due(x.raze(0), SOURCE);
            source(13, UP, 2, 1);
            due(x.tick(1), 0);
            due(x.raze(13), SOURCE);
            due(x.tick(2), 0);
        }
        tells(1, 4, 8, 7, 0, 8, 0);
        // two of item 2 come, then the source fills
        source(13, UP, 2, 1);
        turnIs(3, 1);
    }

    @Says(in = "3. TURNS", words = "STORES, MADE, WORK,")
    static void muchMadeAndLittleWorkIsNotTheOtherWayAbout() {
        // 4 are made while it works again for 60 ticks; the sink takes them in turns with what comes from above
        due(x.recipe(3, 4, 60, 1, 1, 0, 0, 0), 0);
        source(at(0, 1), RIGHT, 1, 1);
        machine(at(1, 1), RIGHT, 0);
        due(x.tick(3), 0);
        due(x.raze(at(0, 1)), SOURCE);
        due(x.tick(59), 0);
        tells(at(1, 1), 4, 4, 5, 0, 6, 1, 7, 1);
        sink(at(2, 1));
        source(at(2, 0), DOWN, 9, 1);
        // it ends in ticks 60 and 120, gives in ticks 120, 122, 124 and 126, and what waited above goes in tick 127
        turnIs(127, 1);
        due(x.turned(2), 1);
    }

    @Says(in = "3. TURNS", words = "STORES, MADE, WORK,")
    static void madeIsOfTheState() {
        due(x.recipe(3, 4, 1, 1, 1, 0, 0, 0), 0);
        source(0, RIGHT, 1, 1);
        machine(1, RIGHT, 0);
        sink(2);
        due(x.tick(1), 0);
        due(x.raze(0), SOURCE);
        // begins in tick 1, ends in tick 2, gives the last of 4 in tick 5
        turnIs(5, 1);
    }

    @Says(in = "3. TURNS", words = "MADE, WORK, whether it works,")
    static void workIsOfTheState() {
        due(x.recipe(3, 1, 10, 1, 1, 0, 0, 0), 0);
        source(0, RIGHT, 1, 1);
        machine(1, RIGHT, 0);
        due(x.tick(1), 0);
        due(x.raze(0), SOURCE);
        // begins in tick 1, ends in tick 11
        turnIs(11, 1);
    }

    @Says(in = "3. TURNS", words = "whether it works, TOOK, GAVE).")
    static void whetherItWorksIsOfTheState() {
        // behind tick 1 and tick 6 all is alike (the clock at 1, nothing stored or made, work at 0), but it works in tick 6
        due(x.recipe(3, 1, 1, 1, 1, 0, 0, 0), 0);
        source(0, RIGHT, 1, 5);
        machine(1, RIGHT, 0);
        sink(2);
        turnIs(2, 5);
    }

    @Says(in = "3. TURNS", words = "whether it works, TOOK, GAVE).")
    static void tookIsOfTheState() {
        // the sink's TOOK is 3 ahead of the first tick, and 2 behind it and ever on
        source(12, UP, 1, 1);
        sink(0);
        turnIs(1, 1);
        // from the left it takes on side 3, as at first
        fresh();
        source(0, RIGHT, 1, 1);
        sink(1);
        turnIs(0, 1);
    }

    @Says(in = "3. TURNS", words = "TOOK, GAVE).")
    static void gaveIsOfTheState() {
        // it gives to side 1 in tick 3 for the first time; clock and item are as behind tick 1 then
        source(0, RIGHT, 1, 2);
        splitter(1, 6);
        sink(2);
        turnIs(3, 2);
    }

    @Says(in = "3. TURNS", words = "The STATE: all PARTS with all that is told above")
    static void whatPartsTookAndGaveEverIsNotOfTheState() {
        source(0, RIGHT, 1, 1);
        sink(1);
        due(x.tick(7), 7);
        turnIs(0, 1);
        due(x.status(4), 7);
    }

    // ---- first, length, the turn

    @Says(in = "3. TURNS", words = "It comes again: from the floor as it is,")
    static void theTurnIsLookedForFromTheFloorAsItIs() {
        source(0, RIGHT, 1, 1);
        belt(1, RIGHT);
        belt(2, RIGHT);
        // belts fill in ticks 1 and 2, the first one again in tick 3, the source in tick 4
        turnIs(4, 1);
        for (int ahead = 1; ahead <= 6; ahead++) {
            due(x.tick(1), 0);
            turnIs(Math.max(0, 4 - ahead), 1);
        }
    }

    @Says(in = "3. TURNS", words = "It comes again: from the floor as it is,")
    static void aMachineAmidItsWorkIsOfTheFloorAsItIs() {
        due(x.recipe(3, 4, 10, 1, 1, 0, 0, 0), 0);
        source(0, RIGHT, 1, 1);
        machine(1, RIGHT, 0);
        due(x.tick(15), 0);
        due(x.raze(0), SOURCE);
        // begun in ticks 2 and 12
        tells(1, 4, 4, 5, 3, 6, 1, 7, 2);
        // it ends 7 ticks on, and then it has made more than it makes
        turnIs(7, 1);
        due(x.cellTurn(1, 3), 1);
        due(x.cellTurn(1, 4), 0);
        tells(1, 4, 4, 5, 3, 6, 1, 7, 2);
    }

    @Says(in = "3. TURNS", words = "FIRST is the least number of TICKS behind which the STATE is one that comes again later,")
    static void firstIsZeroWhereTheFloorComesAgain() {
        turnIs(0, 1);
        sink(0);
        belt(50, UP);
        turnIs(0, 1);
    }

    @Says(in = "3. TURNS", words = "FIRST is the least number of TICKS behind which the STATE is one that comes again later,")
    static void firstMayBeOneLessThanTheLimit() {
        // the source is full behind 60 ticks, the belts fill ahead of it
        source(0, RIGHT, 1, 60);
        turnIs(60, 1);
        // six places of 60 ticks each, and a clock of 39 ahead: 399 ticks
        for (int cell = 1; cell <= 6; cell++) belt(cell, RIGHT);
        due(x.tick(21), 0);
        turnIs(399, 1);
    }

    @Says(in = "3. TURNS", words = "LENGTH the least number of TICKS, above 0, from there to when it does.")
    static void lengthIsTheLeastNumberOfTicks() {
        source(0, RIGHT, 1, 4);
        sink(1);
        source(24, RIGHT, 1, 6);
        sink(25);
        turnIs(0, 12);
        due(x.turned(2), 3 + 2);
        // further on in the turn it is as long
        due(x.tick(5), 1);
        turnIs(0, 12);
        due(x.turned(2), 5);
    }

    @Says(in = "3. TURNS", words = "THE TURN are the LENGTH TICKS behind FIRST.")
    static void whatComesAheadOfTheTurnIsNotOfIt() {
        // 4 come to the sink from the machine ahead of the turn; in it one each 7 ticks
        due(x.recipe(3, 4, 1, 1, 1, 0, 0, 50), 0);
        source(0, RIGHT, 1, 1);
        machine(1, RIGHT, 0);
        sink(2);
        due(x.tick(1), 0);
        due(x.raze(0), SOURCE);
        source(24, RIGHT, 1, 7);
        sink(25);
        turnIs(5, 7);
        due(x.turned(2), 1);
        due(x.turned(3), 0);
        due(x.cellTurn(1, 1), 0);
        due(x.cellTurn(1, 2), 0);
        due(x.cellTurn(2, 0), 0);
    }

    // ---- promise 16

    @Says(in = "Promise 16", words = {"Looks for THE TURN: LENGTH, if FIRST and LENGTH together are no more than limit;",
        "else 0 (then there is no latest TURN)."})
    static void firstAndLengthAreNoMoreThanTheLimit() {
        source(0, RIGHT, 1, 50);
        belt(1, RIGHT);
        due(x.turn(101), 1);
        due(x.turned(0), 100);
        due(x.turn(100), 0);
        for (int what = 0; what <= 4; what++) due(x.turned(what), NONE);
        for (int what = 0; what <= 4; what++) due(x.cellTurn(0, what), NONE);
        due(x.turn(400), 1);
        due(x.turned(0), 100);
    }

    @Says(in = "Promise 16", words = "if FIRST and LENGTH together are no more than limit;")
    static void aTurnOfFourHundredTicksIsFound() {
        // 16 and 25 ticks together come again in 400
        source(0, RIGHT, 1, 16);
        sink(1);
        source(24, RIGHT, 1, 25);
        sink(25);
        due(x.turn(399), 0);
        due(x.turn(400), 400);
        due(x.turned(0), 0);
        due(x.turned(2), 25 + 16);
    }

    @Says(in = "Promise 16", words = "if FIRST and LENGTH together are no more than limit;")
    static void aTurnThatIsLongerThanFourHundredTicksIsNot() {
        source(0, RIGHT, 1, 59);
        sink(1);
        source(24, RIGHT, 1, 60);
        sink(25);
        due(x.turn(400), 0);
        due(x.turned(1), NONE);
    }

    @Says(in = "Promise 16", words = "else 0 (then there is no latest TURN).")
    static void aTurnNotFoundTakesTheLatestAway() {
        source(0, RIGHT, 1, 3);
        sink(1);
        due(x.turn(3), 3);
        due(x.turned(1), 3);
        due(x.cellTurn(0, 1), 1);
        due(x.turn(2), 0);
        due(x.turned(1), NONE);
        due(x.cellTurn(0, 1), NONE);
    }

    @Says(in = "Promise 16", words = "The floor stays as it is.")
    static void turnLeavesTheFloorAsItIs() {
        due(x.recipe(3, 2, 3, 1, 1, 0, 0, 5), 0);
        source(0, RIGHT, 1, 2);
        splitter(1, 6);
        machine(2, RIGHT, 0);
        sink(3);
        belt(13, DOWN);
        due(x.tick(9), 2);
        int[] before = new int[5 * 15];
        int[] cells = {0, 1, 2, 3, 13};
        for (int k = 0; k < before.length; k++) before[k] = x.part(cells[k / 15], k % 15);
        int[] counts = {x.status(2), x.status(3), x.status(4), x.sunk(3)};
        due(x.turn(400) > 0 ? 1 : 0, 1);
        due(x.turn(1), 0);
        for (int k = 0; k < before.length; k++) due(x.part(cells[k / 15], k % 15), before[k]);
        due(x.status(2), counts[0]);
        due(x.status(3), counts[1]);
        due(x.status(4), counts[2]);
        due(x.sunk(3), counts[3]);
    }

    @Says(in = "Promise 16", words = "-6 limit not 1 to 400.")
    static void theLimitIsOneToFourHundred() {
        refused(-6, () -> x.turn(0));
        refused(-6, () -> x.turn(401));
        refused(-6, () -> x.turn(-1));
        for (int odd : ODD) refused(-6, () -> x.turn(odd));
        due(x.turn(1), 1);
        due(x.turn(400), 1);
    }

    // ---- promise 17

    @Says(in = "Promise 17", words = "Of the latest turn() that was not refused:")
    static void aRefusedTurnDoesNotCount() {
        due(x.turned(0), NONE);
        refused(-6, () -> x.turn(0));
        due(x.turned(0), NONE);
        source(0, RIGHT, 1, 3);
        sink(1);
        due(x.turn(400), 3);
        refused(-6, () -> x.turn(401));
        due(x.turned(1), 3);
        due(x.cellTurn(0, 1), 1);
        due(x.raze(0), SOURCE);
        due(x.turned(1), 3);
        due(x.turn(400), 1);
        due(x.turned(1), 1);
    }

    @Says(in = "Promise 17", words = {"0 FIRST, 1 LENGTH,", "2 ITEMS that came to SINKS in THE TURN,"})
    static void turnedTellsWhatCameToAllSinks() {
        for (int column = 0; column < 4; column++) {
            source(at(2 * column, 0), RIGHT, 1 + column, 1 + column);
            sink(at(2 * column + 1, 0));
        }
        due(x.turn(400), 12);
        due(x.turned(0), 0);
        due(x.turned(1), 12);
        due(x.turned(2), 12 + 6 + 4 + 3);
        due(x.tick(12), 25);
        due(x.turned(2), 25);
    }

    @Says(in = "Promise 17",
        words = "3 the greatest sum of POWER of all MACHINES that WORK at the end of one of its TICKS,")
    static void turnedTellsTheGreatestPower() {
        // A works at the end of 1 tick of 6, B of 2 of 6: both begin in the tick behind their item's
        due(x.recipe(3, 1, 1, 1, 1, 0, 0, 5), 0);
        due(x.recipe(4, 1, 2, 2, 1, 0, 0, 100), 1);
        source(0, RIGHT, 1, 6);
        machine(1, RIGHT, 0);
        sink(2);
        source(24, RIGHT, 2, 6);
        machine(25, RIGHT, 1);
        sink(26);
        due(x.turn(400), 6);
        due(x.turned(3), 105);
        // moved on by three ticks, they never work at one end
        due(x.raze(0), SOURCE);
        due(x.tick(3), 0);
        source(0, RIGHT, 1, 6);
        due(x.turn(400), 6);
        due(x.turned(3), 100);
        // the less powerful one alone
        due(x.raze(24), SOURCE);
        due(x.turn(400), 6);
        due(x.turned(3), 5);
    }

    @Says(in = "Promise 17", words = "MACHINES that WORK at the end of one of its TICKS,")
    static void aMachineThatEndsAndBeginsWorksAtTheEnd() {
        // an item each tick, work of one tick: it ends and begins in each tick
        due(x.recipe(3, 1, 1, 1, 1, 0, 0, 40), 0);
        source(0, RIGHT, 1, 1);
        machine(1, RIGHT, 0);
        sink(2);
        due(x.turn(400), 1);
        due(x.turned(3), 40);
        due(x.cellTurn(1, 2), 1);
        // where its work has ended and nothing is left to begin with, no power is wanted
        due(x.raze(0), SOURCE);
        due(x.turn(400), 1);
        due(x.turned(3), 0);
    }

    @Says(in = "Promise 17", words = "4 1 if nothing moves and nothing works in it.")
    static void aTurnInWhichSomethingMovesIsNotStill() {
        due(x.turn(400), 1);
        due(x.turned(4), 1);
        // a clock that runs is no move, but what the source then gives is
        source(0, RIGHT, 1, 60);
        sink(1);
        due(x.turn(400), 60);
        due(x.turned(4), 0);
        // ahead of the turn it moves, in it not
        due(x.raze(1), SINK);
        belt(1, RIGHT);
        due(x.turn(400), 1);
        due(x.turned(0), 120);
        due(x.turned(4), 1);
    }

    @Says(in = "Promise 17", words = "NONE: another what, no TURN.")
    static void turnedOfAnotherWhatIsNone() {
        for (int what = 0; what <= 4; what++) due(x.turned(what), NONE);
        due(x.turn(1), 1);
        int[] told = {0, 1, 0, 0, 1};
        for (int what = 0; what <= 4; what++) due(x.turned(what), told[what]);
        due(x.turned(5), NONE);
        due(x.turned(-1), NONE);
        for (int odd : ODD) due(x.turned(odd), NONE);
    }

    // ---- promise 18

    @Says(in = "Promise 18", words = "Of the PART that a CELL had at that turn(), in THE TURN:")
    static void whatIsBuiltOrRazedSinceDoesNotCount() {
        source(0, RIGHT, 1, 3);
        sink(1);
        due(x.turn(400), 3);
        due(x.raze(0), SOURCE);
        belt(0, RIGHT);
        sink(5);
        due(x.tick(5), 0);
        due(x.cellTurn(0, 0), 0);
        due(x.cellTurn(0, 1), 1);
        due(x.cellTurn(1, 0), 1);
        due(x.cellTurn(5, 0), NONE);
        due(x.raze(1), SINK);
        due(x.cellTurn(1, 0), 1);
    }

    @Says(in = "Promise 18", words = "0 how many ITEMS it took, 1 how many it gave,")
    static void cellTurnTellsWhatWasTakenAndGiven() {
        // one item each 2 ticks, to both sides in turns
        source(0, RIGHT, 1, 2);
        splitter(1, 6);
        sink(2);
        sink(13);
        due(x.tick(40), 19);
        due(x.turn(400), 4);
        int[][] due = {{0, 0, 2}, {1, 2, 2}, {2, 1, 0}, {13, 1, 0}};
        for (int[] told : due) {
            due(x.cellTurn(told[0], 0), told[1]);
            due(x.cellTurn(told[0], 1), told[2]);
            due(x.cellTurn(told[0], 2), 0);
            due(x.cellTurn(told[0], 3), 0);
            due(x.cellTurn(told[0], 4), 0);
        }
    }

    @Says(in = "Promise 18", words = "2 how often it ended WORK (0 but for MACHINES),")
    static void cellTurnTellsHowOftenWorkEnded() {
        // 3 of item 3 come of each item 1: an item each 6 ticks, two works in a turn of 12
        due(x.recipe(3, 3, 2, 1, 1, 0, 0, 0), 0);
        source(0, RIGHT, 1, 6);
        machine(1, RIGHT, 0);
        sink(2);
        source(24, RIGHT, 1, 4);
        sink(25);
        due(x.turn(400), 12);
        due(x.cellTurn(1, 0), 2);
        due(x.cellTurn(1, 1), 6);
        due(x.cellTurn(1, 2), 2);
        for (int cell : new int[] {0, 2, 24, 25}) due(x.cellTurn(cell, 2), 0);
    }

    @Says(in = "Promise 18", words = "3 1 if it is STUCK: at the end of each TICK it has an ITEM (MADE), and gave none;")
    static void whatHasAnItemAndGivesNoneIsStuck() {
        due(x.recipe(3, 4, 1, 1, 1, 0, 0, 0), 0);
        source(0, RIGHT, 1, 1);
        machine(1, RIGHT, 0);
        belt(2, RIGHT);
        splitter(3, 6);
        tunnel(4, RIGHT);
        exit(6, RIGHT);
        source(24, RIGHT, 1, 1);
        sink(25);
        belt(26, RIGHT);
        due(x.turn(400), 1);
        for (int cell : new int[] {0, 1, 2, 3, 4, 6}) due(x.cellTurn(cell, 3), 1);
        // one that gives, one that takes all, one that has none
        for (int cell : new int[] {24, 25, 26}) due(x.cellTurn(cell, 3), 0);
    }

    @Says(in = "Promise 18", words = "at the end of each TICK it has an ITEM (MADE), and gave none;")
    static void aMachineThatAlwaysHasSomeMadeAndGivesIsNotStuck() {
        // one given in each tick; it begins with 4, ends behind 3 ticks, and begins one later: 3, 2, 1, 4 at the ends
        due(x.recipe(3, 4, 3, 1, 1, 0, 0, 0), 0);
        source(0, RIGHT, 1, 1);
        machine(1, RIGHT, 0);
        due(x.tick(12), 0);
        due(x.part(1, 4), 8);
        sink(2);
        turnIs(4, 4);
        due(x.turned(2), 4);
        due(x.cellTurn(1, 1), 4);
        due(x.cellTurn(1, 3), 0);
        // and its source waits at some ends, but gives
        due(x.cellTurn(0, 1), 1);
        due(x.cellTurn(0, 3), 0);
    }

    @Says(in = "Promise 18", words = "4 1 if it is STARVED: a MACHINE that doesn't WORK at the end of any TICK,")
    static void aMachineThatNeverWorksIsStarved() {
        due(x.recipe(3, 1, 1, 1, 1, 2, 1, 0), 0);
        // one of its needs never comes
        source(0, RIGHT, 1, 1);
        machine(1, RIGHT, 0);
        sink(2);
        due(x.turn(400), 1);
        due(x.cellTurn(1, 4), 1);
        due(x.cellTurn(1, 3), 0);
        due(x.cellTurn(0, 4), 0);
        due(x.cellTurn(2, 4), 0);
        // it comes each 30 ticks: it works at one end of 30
        source(13, UP, 2, 30);
        due(x.turn(400), 30);
        due(x.cellTurn(1, 2), 1);
        due(x.cellTurn(1, 4), 0);
    }

    @Says(in = "Promise 18", words = "nor has more MADE than it MAKES at the end of any.")
    static void aMachineWithMoreMadeThanItMakesIsNotStarved() {
        due(x.recipe(3, 2, 1, 1, 1, 0, 0, 0), 0);
        source(0, RIGHT, 1, 1);
        machine(1, RIGHT, 0);
        due(x.tick(1), 0);
        due(x.raze(0), SOURCE);
        // 2 made, no more than it makes, and nothing to begin with
        due(x.turn(400), 1);
        due(x.cellTurn(1, 3), 1);
        due(x.cellTurn(1, 4), 1);
        due(x.tick(2), 0);
        due(x.part(1, 4), 2);
        // 4 made
        source(0, RIGHT, 1, 1);
        due(x.tick(1), 0);
        due(x.raze(0), SOURCE);
        due(x.turn(400), 1);
        due(x.cellTurn(1, 3), 1);
        due(x.cellTurn(1, 4), 0);
        due(x.tick(2), 0);
        due(x.part(1, 4), 4);
        // one away, and one more away: 3 is more than 2, 2 isn't
        belt(2, RIGHT);
        due(x.turn(400), 1);
        due(x.cellTurn(1, 4), 0);
        belt(3, RIGHT);
        due(x.turn(400), 1);
        due(x.cellTurn(1, 4), 1);
    }

    @Says(in = "Promise 18", words = "NONE: no TURN, a CELL that was BARE, another what.")
    static void cellTurnOfNoTurnNoPartOrAnotherWhatIsNone() {
        sink(0);
        for (int what = 0; what <= 4; what++) due(x.cellTurn(0, what), NONE);
        due(x.turn(1), 1);
        for (int what = 0; what <= 4; what++) {
            due(x.cellTurn(0, what), 0);
            due(x.cellTurn(1, what), NONE);
            due(x.cellTurn(143, what), NONE);
            due(x.cellTurn(144, what), NONE);
            due(x.cellTurn(-1, what), NONE);
        }
        due(x.cellTurn(0, 5), NONE);
        due(x.cellTurn(0, -1), NONE);
        for (int odd : ODD) {
            due(x.cellTurn(odd, 0), NONE);
            due(x.cellTurn(0, odd), NONE);
        }
    }
}
