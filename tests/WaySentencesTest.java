/** The document's promises 24 and 25 (shortest ways), sentence by sentence. */
public final class WaySentencesTest extends Checks {
    private static final int MID = at(5, 5);

    public static void main(String[] args) {
        runAll(WaySentencesTest.class);
    }

    /** The sides of the belts laid from a part on, beginning with the first belt's cell. */
    private static void laid(int first, int... sides) {
        int cell = first;
        for (int side : sides) {
            tells(cell, 0, BELT, 1, side, 2, 0, 9, 3, 10, 3, 13, 0, 14, 0);
            cell = away(cell, side, 1);
        }
    }

    // ---- promise 24

    @Says(in = "Promise 24", words = {"How many BELTS at least lead,", "from the PART in one CELL to that in another:"})
    static void oneBeltLeadsOverOneCell() {
        source(0, RIGHT, 1, 1);
        sink(2);
        due(x.path(0, 2), 1);
        // from corner to corner: 22 steps over 21 cells
        fresh();
        source(0, RIGHT, 1, 1);
        sink(143);
        due(x.path(0, 143), 21);
    }

    @Says(in = "Promise 24", words = "over BARE CELLS,")
    static void partsAreGoneRound() {
        source(at(0, 0), RIGHT, 1, 1);
        sink(at(4, 0));
        due(x.path(at(0, 0), at(4, 0)), 3);
        belt(at(2, 0), RIGHT);
        // down, two on, up: (1,0) (1,1) (2,1) (3,1) (3,0)
        due(x.path(at(0, 0), at(4, 0)), 5);
        sink(at(2, 1));
        due(x.path(at(0, 0), at(4, 0)), 7);
        for (int row = 2; row < 11; row++) sink(at(2, row));
        // over the last row: 11 down, 2 on, 11 up, from column 1 to column 3
        due(x.path(at(0, 0), at(4, 0)), 25);
        sink(at(2, 11));
        due(x.path(at(0, 0), at(4, 0)), NONE);
        due(x.raze(at(2, 5)), SINK);
        due(x.path(at(0, 0), at(4, 0)), 13);
    }

    @Says(in = "Promise 24", words = "over BARE CELLS,")
    static void theLongestWayGoesToAndFro() {
        // walls in every second row, open at one end in turns
        for (int row = 1; row < 11; row += 2) {
            for (int column = 0; column < 12; column++) {
                if (column != (row % 4 == 1 ? 11 : 0)) sink(at(column, row));
            }
        }
        source(at(0, 0), RIGHT, 1, 1);
        sink(at(0, 11));
        // the rows between have 12 cells each (the first one without the source's), the five openings one each;
        // the last row is gone through to (0,10), and down
        due(x.path(at(0, 0), at(0, 11)), 11 + 1 + 12 + 1 + 12 + 1 + 12 + 1 + 12 + 1 + 12);
        due(x.lay(at(0, 0), at(0, 11)), 76);
    }

    @Says(in = "Promise 24", words = "the first lies on a SIDE to which from leads,")
    static void theFirstBeltLiesWhereFromLeads() {
        for (int lead = 0; lead < 4; lead++) {
            fresh();
            source(MID, lead, 1, 1);
            int[] belts = new int[4];
            for (int side = 0; side < 4; side++) sink(away(MID, side, 3));
            for (int side = 0; side < 4; side++) belts[side] = x.path(MID, away(MID, side, 3));
            // straight on 2; aside the first one ahead, then three along the side; back four, and two more round from itself
            for (int side = 0; side < 4; side++) {
                due(belts[side], side == lead ? 2 : side == opposite(lead) ? 6 : 4);
            }
        }
    }

    @Says(in = "Promise 24", words = "the first lies on a SIDE to which from leads,")
    static void aSplitterBeginsOnAnyOfItsOuts() {
        for (int outs : new int[] {3, 5, 6, 7, 9, 10, 11, 12, 13, 14}) {
            for (int side = 0; side < 4; side++) {
                fresh();
                splitter(MID, outs);
                sink(away(MID, side, 2));
                boolean out = (outs >> side & 1) == 1;
                boolean across = (outs >> (side + 1) % 4 & 1) == 1 || (outs >> (side + 3) % 4 & 1) == 1;
                due(x.path(MID, away(MID, side, 2)), out ? 1 : across ? 3 : 99);
            }
        }
    }

    @Says(in = "Promise 24", words = "the first lies on a SIDE to which from leads,")
    static void withoutABareCellWhereFromLeadsThereIsNoWay() {
        source(MID, RIGHT, 1, 1);
        sink(at(5, 8));
        sink(at(6, 5));
        due(x.path(MID, at(5, 8)), NONE);
        due(x.raze(at(6, 5)), SINK);
        // (6,5) (6,6) (6,7) (6,8), and to the left
        due(x.path(MID, at(5, 8)), 4);
        // beyond the floor there is none
        for (int side = 0; side < 4; side++) {
            fresh();
            int cell = new int[] {at(4, 0), at(11, 4), at(4, 11), at(0, 4)}[side];
            source(cell, side, 1, 1);
            sink(MID);
            due(x.path(cell, MID), NONE);
        }
    }

    @Says(in = "Promise 24", words = "each one leads to the next, the last to to, on a SIDE to which to doesn't lead.")
    static void theLastBeltDoesNotLieWhereToLeads() {
        due(x.recipe(3, 1, 1, 1, 1, 0, 0, 0), 0);
        for (int kind : new int[] {BELT, TUNNEL, MACHINE}) {
            for (int lead = 0; lead < 4; lead++) {
                fresh();
                due(x.recipe(3, 1, 1, 1, 1, 0, 0, 0), 0);
                source(at(5, 1), DOWN, 1, 1);
                due(x.build(MID, kind, lead, 0, 0), 1);
                // from above 3; where it leads up, round to its left: (5,2) (4,2) .. (4,5)
                due(x.path(at(5, 1), MID), lead == UP ? 5 : 3);
            }
        }
    }

    @Says(in = "Promise 24", words = "the last to to, on a SIDE to which to doesn't lead.")
    static void aSplitterIsEnteredOnNoneOfItsOuts() {
        // from above: side 0 with 3 belts, sides 1 and 3 with 5, side 2 with 7
        for (int outs : new int[] {3, 5, 6, 7, 9, 10, 11, 12, 13, 14}) {
            fresh();
            source(at(5, 1), DOWN, 1, 1);
            splitter(MID, outs);
            int belts = (outs & 1) == 0 ? 3 : (outs & 10) != 10 ? 5 : 7;
            due(x.path(at(5, 1), MID), belts);
        }
    }

    @Says(in = "Promise 24", words = "the last to to, on a SIDE to which to doesn't lead.")
    static void aSinkIsEnteredOnEverySide() {
        sink(MID);
        int[] starts = {at(5, 1), at(9, 5), at(5, 9), at(1, 5)};
        for (int side = 0; side < 4; side++) {
            source(starts[side], opposite(side), 1, 1);
            due(x.path(starts[side], MID), 3);
        }
    }

    @Says(in = "Promise 24", words = "0 if none is wanted (from leads to to, and not the other way about, already);")
    static void noBeltIsWantedWhereFromLeadsToTo() {
        due(x.recipe(3, 1, 1, 1, 1, 0, 0, 0), 0);
        for (int from : new int[] {BELT, EXIT, SOURCE, MACHINE, SPLITTER}) {
            for (int to : new int[] {BELT, TUNNEL, SPLITTER, MACHINE, SINK}) {
                fresh();
                due(x.recipe(3, 1, 1, 1, 1, 0, 0, 0), 0);
                due(x.build(MID, from, from == SPLITTER ? 6 : RIGHT, from == SOURCE ? 1 : 0, 1), 1);
                due(x.build(at(6, 5), to, to == SPLITTER ? 6 : RIGHT, 0, 0), 1);
                due(x.path(MID, at(6, 5)), 0);
            }
        }
    }

    @Says(in = "Promise 24", words = "0 if none is wanted (from leads to to,")
    static void noBeltIsWantedOnAnyOfTheFourSides() {
        for (int lead = 0; lead < 4; lead++) {
            fresh();
            belt(MID, lead);
            for (int side = 0; side < 4; side++) sink(away(MID, side, 1));
            for (int side = 0; side < 4; side++) due(x.path(MID, away(MID, side, 1)), side == lead ? 0 : NONE);
        }
        for (int outs : new int[] {3, 5, 6, 7, 9, 10, 11, 12, 13, 14}) {
            fresh();
            splitter(MID, outs);
            for (int side = 0; side < 4; side++) sink(away(MID, side, 1));
            for (int side = 0; side < 4; side++) {
                due(x.path(MID, away(MID, side, 1)), (outs >> side & 1) == 1 ? 0 : NONE);
            }
        }
    }

    @Says(in = "Promise 24", words = "(from leads to to, and not the other way about, already);")
    static void twoThatLeadToOneAnotherAreNotJoined() {
        belt(MID, RIGHT);
        belt(at(6, 5), LEFT);
        due(x.path(MID, at(6, 5)), NONE);
        due(x.path(at(6, 5), MID), NONE);
        // a splitter has another out below: (5,6) (6,6), and up
        due(x.raze(MID), BELT);
        splitter(MID, 6);
        due(x.path(MID, at(6, 5)), 2);
        due(x.path(at(6, 5), MID), NONE);
        // two splitters: (5,6) (6,6) (7,6) (7,5), and into the right one from its right
        due(x.raze(at(6, 5)), BELT);
        splitter(at(6, 5), 8 + 4);
        due(x.path(MID, at(6, 5)), 4);
    }

    @Says(in = "Promise 24", words = "(from leads to to, and not the other way about, already);")
    static void aNeighbourThatIsNotLedToIsNotJoined() {
        belt(MID, UP);
        sink(at(6, 5));
        // (5,4) (6,4), and down
        due(x.path(MID, at(6, 5)), 2);
        // the other way about alone: to leads to from
        belt(at(5, 8), RIGHT);
        belt(at(4, 8), RIGHT);
        due(x.path(at(4, 8), at(5, 8)), 0);
        // (6,8) (6,7) (5,7) (4,7), and down
        due(x.path(at(5, 8), at(4, 8)), 4);
    }

    @Says(in = "Promise 24", words = "NONE: there is no such way, from is to, from or to BARE or no CELL,")
    static void noWayFromOrToNoPart() {
        source(0, RIGHT, 1, 1);
        sink(5);
        due(x.path(0, 5), 4);
        due(x.path(0, 0), NONE);
        due(x.path(5, 5), NONE);
        due(x.path(7, 7), NONE);
        due(x.path(0, 3), NONE);
        due(x.path(3, 5), NONE);
        due(x.path(0, 1), NONE);
        for (int out : new int[] {-1, 144}) {
            due(x.path(out, 5), NONE);
            due(x.path(0, out), NONE);
            due(x.path(out, out), NONE);
        }
        for (int odd : ODD) {
            due(x.path(odd, 5), NONE);
            due(x.path(0, odd), NONE);
        }
    }

    @Says(in = "Promise 24", words = "from is to,")
    static void noWayFromAPartToItself() {
        due(x.recipe(3, 1, 1, 1, 1, 0, 0, 0), 0);
        for (int kind = BELT; kind <= SINK; kind++) {
            due(x.build(12 * kind, kind, kind == SPLITTER ? 6 : RIGHT, kind == SOURCE ? 1 : 0, 1), 1);
            due(x.path(12 * kind, 12 * kind), NONE);
        }
    }

    @Says(in = "Promise 24", words = "from a TUNNEL or SINK, to an EXIT or SOURCE.")
    static void noWayFromTunnelsAndSinksOrToExitsAndSources() {
        due(x.recipe(3, 1, 1, 1, 1, 0, 0, 0), 0);
        for (int from = BELT; from <= SINK; from++) {
            for (int to = BELT; to <= SINK; to++) {
                fresh();
                due(x.recipe(3, 1, 1, 1, 1, 0, 0, 0), 0);
                due(x.build(at(2, 5), from, from == SPLITTER ? 6 : RIGHT, from == SOURCE ? 1 : 0, 1), 1);
                due(x.build(at(6, 5), to, to == SPLITTER ? 6 : RIGHT, to == SOURCE ? 1 : 0, 1), 1);
                boolean none = from == TUNNEL || from == SINK || to == EXIT || to == SOURCE;
                due(x.path(at(2, 5), at(6, 5)), none ? NONE : 3);
                // next to one another, too
                due(x.raze(at(6, 5)), to);
                due(x.build(at(3, 5), to, to == SPLITTER ? 6 : RIGHT, to == SOURCE ? 1 : 0, 1), 1);
                due(x.path(at(2, 5), at(3, 5)), none ? NONE : 0);
            }
        }
    }

    @Says(in = "Promise 24", words = "How many BELTS at least lead,")
    static void pathBuildsNothing() {
        source(0, RIGHT, 1, 1);
        sink(5);
        due(x.path(0, 5), 4);
        due(x.status(0), 2);
        due(x.path(0, 5), 4);
    }

    // ---- promise 25

    @Says(in = "Promise 25", words = "Such a way is built: how many BELTS;")
    static void layBuildsTheWay() {
        source(at(0, 0), RIGHT, 1, 1);
        sink(at(4, 0));
        sink(at(2, 0));
        due(x.lay(at(0, 0), at(4, 0)), 5);
        due(x.status(0), 3 + 5);
        laid(at(1, 0), DOWN, RIGHT, RIGHT, UP, RIGHT);
        due(x.tick(5), 0);
        due(x.tick(1), 1);
    }

    @Says(in = "Promise 25", words = "Such a way is built: how many BELTS;")
    static void straightWaysAreBuiltToEachSide() {
        for (int side = 0; side < 4; side++) {
            fresh();
            source(MID, side, 1, 1);
            sink(away(MID, side, 4));
            due(x.lay(MID, away(MID, side, 4)), 3);
            laid(away(MID, side, 1), side, side, side);
            due(x.status(0), 5);
            due(x.tick(4), 1);
        }
    }

    @Says(in = "Promise 25", words = "Such a way is built: how many BELTS;")
    static void layWhereNoneIsWantedBuildsNone() {
        source(0, RIGHT, 1, 1);
        sink(1);
        due(x.lay(0, 1), 0);
        due(x.status(0), 2);
        due(x.lay(0, 1), 0);
    }

    @Says(in = "Promise 25", words = "of several fewest ones that whose first SIDE, second, .. is least")
    static void theWayOfTheLeastSidesIsBuilt() {
        // up and to the right: up first
        splitter(at(3, 8), 3);
        sink(at(6, 5));
        due(x.lay(at(3, 8), at(6, 5)), 5);
        laid(at(3, 7), UP, UP, RIGHT, RIGHT, RIGHT);
        // down and to the right: right first
        fresh();
        splitter(at(3, 3), 6);
        sink(at(6, 6));
        due(x.lay(at(3, 3), at(6, 6)), 5);
        laid(at(4, 3), RIGHT, RIGHT, DOWN, DOWN, DOWN);
        // down and to the left: down first
        fresh();
        splitter(at(6, 3), 12);
        sink(at(3, 6));
        due(x.lay(at(6, 3), at(3, 6)), 5);
        laid(at(6, 4), DOWN, DOWN, LEFT, LEFT, LEFT);
        // up and to the left: up first
        fresh();
        splitter(at(6, 6), 9);
        sink(at(3, 3));
        due(x.lay(at(6, 6), at(3, 3)), 5);
        laid(at(6, 5), UP, UP, LEFT, LEFT, LEFT);
    }

    @Says(in = "Promise 25", words = "of several fewest ones that whose first SIDE, second, .. is least (from from's CELL on).")
    static void theFirstSideCountsFromTheCellOfFrom() {
        // on both sides of the line 3 belts each: the splitter's side is the first one that counts
        splitter(at(5, 8), 2 + 8);
        sink(at(5, 6));
        due(x.lay(at(5, 8), at(5, 6)), 3);
        laid(at(6, 8), UP, UP, LEFT);
        due(x.part(at(4, 8), 0), 0);
        // a belt's first side is given: its cell ahead, then the least side on
        fresh();
        belt(at(5, 8), UP);
        sink(at(5, 6));
        sink(at(5, 4));
        due(x.lay(at(5, 8), at(5, 4)), 5);
        laid(at(5, 7), RIGHT, UP, UP, UP);
        tells(at(6, 4), 0, BELT, 1, LEFT);
    }

    @Says(in = "Promise 25", words = "of several fewest ones that whose first SIDE, second, .. is least")
    static void aLongerWayOfLesserSidesDoesNotCount() {
        // up it would be 4 belts round, to the left it is 1
        splitter(at(5, 5), 1 + 8);
        sink(at(3, 5));
        due(x.lay(at(5, 5), at(3, 5)), 1);
        laid(at(4, 5), LEFT);
        due(x.part(at(5, 4), 0), 0);
    }

    @Says(in = "Promise 25", words = "of several fewest ones that whose first SIDE, second, .. is least")
    static void theLastSideCountsToo() {
        // a splitter that leads up and down is entered from the right or the left; from above both are as near
        source(at(5, 1), DOWN, 1, 1);
        splitter(at(5, 4), 1 + 4);
        due(x.lay(at(5, 1), at(5, 4)), 4);
        laid(at(5, 2), RIGHT, DOWN, DOWN, LEFT);
        // to the right of it is no room now, so the next one comes in from the left
        source(at(3, 1), DOWN, 1, 1);
        due(x.lay(at(3, 1), at(5, 4)), 4);
        laid(at(3, 2), RIGHT, DOWN, DOWN, RIGHT);
    }

    @Says(in = "Promise 25", words = "-1 no CELL;")
    static void layOfNoCellIsRefused() {
        source(0, RIGHT, 1, 1);
        sink(5);
        for (int out : new int[] {-1, 144}) {
            refused(-1, () -> x.lay(out, 5));
            refused(-1, () -> x.lay(0, out));
            refused(-1, () -> x.lay(out, out));
            refused(-1, () -> x.lay(5, out));
        }
        for (int odd : ODD) {
            refused(-1, () -> x.lay(odd, 5));
            refused(-1, () -> x.lay(0, odd));
        }
        due(x.status(0), 2);
    }

    @Says(in = "Promise 25", words = "-6 path() is NONE.")
    static void layWithoutAWayIsRefused() {
        source(0, RIGHT, 1, 1);
        sink(5);
        tunnel(24, RIGHT);
        exit(60, RIGHT);
        refused(-6, () -> x.lay(0, 0));
        refused(-6, () -> x.lay(0, 7));
        refused(-6, () -> x.lay(7, 5));
        refused(-6, () -> x.lay(5, 24));
        refused(-6, () -> x.lay(24, 5));
        refused(-6, () -> x.lay(0, 60));
        refused(-6, () -> x.lay(60, 0));
        belt(1, LEFT);
        refused(-6, () -> x.lay(0, 1));
        refused(-6, () -> x.lay(0, 5));
        due(x.status(0), 5);
        due(x.lay(60, 5) > 0 ? 1 : 0, 1);
    }
}
