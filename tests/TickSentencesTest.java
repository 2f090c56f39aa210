/** The document's "2. A TICK", sentence by sentence. */
public final class TickSentencesTest extends Checks {
    private static final int MID = at(5, 5);
    private static final int ABOVE = at(5, 4), ON_RIGHT = at(6, 5), BELOW = at(5, 6), ON_LEFT = at(4, 5);

    public static void main(String[] args) {
        runAll(TickSentencesTest.class);
    }

    // ---- sources

    @Says(in = "2. A TICK", words = "First: each SOURCE without an ITEM has 1 more on its CLOCK;")
    static void theClockOfASourceWithAnItemStands() {
        source(0, RIGHT, 4, 3);
        for (int tick = 1; tick <= 2; tick++) {
            due(x.tick(1), 0);
            tells(0, 2, 0, 3, tick);
        }
        for (int tick = 3; tick <= 8; tick++) {
            due(x.tick(1), 0);
            tells(0, 2, 4, 3, 0);
        }
        // given away in this tick, so the clock goes on in the next one
        belt(1, RIGHT);
        due(x.tick(1), 0);
        tells(0, 2, 0, 3, 0);
        due(x.tick(1), 0);
        tells(0, 2, 0, 3, 1);
    }

    @Says(in = "2. A TICK", words = "when that is its PERIOD, it has its ITEM and the CLOCK is 0.")
    static void aSourceOfPeriodOneHasItsItemInTheFirstTick() {
        source(0, RIGHT, 4, 1);
        due(x.tick(1), 0);
        tells(0, 2, 4, 3, 0);
    }

    @Says(in = "2. A TICK", words = "when that is its PERIOD, it has its ITEM and the CLOCK is 0.")
    static void aSourceOfPeriodSixtyHasItsItemInTheSixtiethTick() {
        source(0, RIGHT, 4, 60);
        due(x.tick(59), 0);
        tells(0, 2, 0, 3, 59);
        due(x.tick(1), 0);
        tells(0, 2, 4, 3, 0);
    }

    // ---- machines

    /** A machine at MID that leads to the right, of recipe 0, with so much in its first store, and no source any more. */
    private static void storeFirst(int many) {
        source(ON_LEFT, RIGHT, 1, 1);
        for (int k = 0; k < many; k++) due(x.tick(1), 0);
        due(x.raze(ON_LEFT), SOURCE);
        due(x.part(MID, 7), many);
    }

    private static void storeSecond(int many) {
        source(ABOVE, DOWN, 2, 1);
        for (int k = 0; k < many; k++) due(x.tick(1), 0);
        due(x.raze(ABOVE), SOURCE);
        due(x.part(MID, 8), many);
    }

    @Says(in = "2. A TICK", words = "Each MACHINE that WORKS has 1 more on its WORK;")
    static void workGrowsByOneATick() {
        due(x.recipe(3, 1, 60, 1, 1, 0, 0, 0), 0);
        machine(MID, RIGHT, 0);
        storeFirst(1);
        due(x.tick(1), 0);
        tells(MID, 5, 0, 6, 1);
        for (int work = 1; work <= 59; work++) {
            due(x.tick(1), 0);
            due(x.part(MID, 5), work);
        }
        tells(MID, 4, 0, 6, 1);
    }

    @Says(in = "2. A TICK",
        words = "when that is its RECIPE's TICKS, what it MAKES is added to MADE, it works no more, WORK is 0.")
    static void workEndsWhenItIsTheTicksOfTheRecipe() {
        for (int ticks : new int[] {1, 2, 60}) {
            for (int makes : new int[] {1, 4}) {
                fresh();
                due(x.recipe(3, makes, ticks, 1, 1, 0, 0, 0), 0);
                machine(MID, RIGHT, 0);
                storeFirst(1);
                due(x.tick(ticks), 0);
                tells(MID, 4, 0, 5, ticks - 1, 6, 1);
                due(x.tick(1), 0);
                tells(MID, 4, makes, 5, 0, 6, 0);
            }
        }
    }

    @Says(in = "2. A TICK",
        words = "when that is its RECIPE's TICKS, what it MAKES is added to MADE, it works no more, WORK is 0.")
    static void whatIsMadeIsAddedToWhatLiesThere() {
        due(x.recipe(3, 4, 1, 1, 1, 0, 0, 0), 0);
        machine(MID, RIGHT, 0);
        storeFirst(1);
        due(x.tick(2), 0);
        due(x.part(MID, 4), 4);
        storeFirst(1);
        due(x.tick(2), 0);
        due(x.part(MID, 4), 8);
    }

    @Says(in = "2. A TICK", words = "Each MACHINE that doesn't work (also one that just ended) begins to,")
    static void aMachineThatJustEndedBeginsInTheSameTick() {
        due(x.recipe(3, 1, 2, 1, 1, 0, 0, 0), 0);
        machine(MID, RIGHT, 0);
        storeFirst(2 - 1);
        source(ON_LEFT, RIGHT, 1, 1);
        due(x.tick(1), 0);
        tells(MID, 4, 0, 5, 0, 6, 1, 7, 1);
        due(x.raze(ON_LEFT), SOURCE);
        due(x.tick(1), 0);
        tells(MID, 4, 0, 5, 1, 6, 1, 7, 1);
        due(x.tick(1), 0);
        tells(MID, 4, 1, 5, 0, 6, 1, 7, 0);
        due(x.tick(2), 0);
        tells(MID, 4, 2, 5, 0, 6, 0, 7, 0);
    }

    @Says(in = "2. A TICK", words = "if MADE is what it MAKES or less,")
    static void aMachineBeginsWithNoMoreMadeThanItMakes() {
        due(x.recipe(3, 4, 1, 1, 1, 0, 0, 0), 0);
        machine(MID, RIGHT, 0);
        source(ON_LEFT, RIGHT, 1, 1);
        due(x.tick(10), 0);
        tells(MID, 4, 8, 6, 0, 7, 2);
        sink(ON_RIGHT);
        // 8, 7, 6 and 5 are more than 4: it doesn't begin, and gives one away each tick
        for (int made = 7; made >= 4; made--) {
            due(x.tick(1), 1);
            tells(MID, 4, made, 6, 0, 7, 2);
        }
        // 4 are as many as it makes
        due(x.raze(ON_LEFT), SOURCE);
        due(x.tick(1), 1);
        tells(MID, 4, 3, 6, 1, 7, 1);
    }

    @Says(in = "2. A TICK", words = "and its STORE has all needs: these are taken out (WORK is 0).")
    static void aMachineBeginsWithAllNeedsInItsStore() {
        due(x.recipe(3, 1, 9, 1, 4, 2, 3, 0), 0);
        machine(MID, RIGHT, 0);
        storeFirst(3);
        storeSecond(3);
        due(x.tick(1), 0);
        tells(MID, 6, 0, 7, 3, 8, 3);
        source(ON_LEFT, RIGHT, 1, 1);
        due(x.tick(1), 0);
        due(x.raze(ON_LEFT), SOURCE);
        tells(MID, 6, 0, 7, 4, 8, 3);
        due(x.tick(1), 0);
        tells(MID, 5, 0, 6, 1, 7, 0, 8, 0);
        // now the second need is the one that lacks
        fresh();
        due(x.recipe(3, 1, 9, 1, 4, 2, 3, 0), 0);
        machine(MID, RIGHT, 0);
        storeSecond(2);
        storeFirst(4);
        due(x.tick(1), 0);
        tells(MID, 6, 0, 7, 4, 8, 2);
        source(ABOVE, DOWN, 2, 1);
        due(x.tick(1), 0);
        due(x.raze(ABOVE), SOURCE);
        tells(MID, 6, 0, 7, 4, 8, 3);
        due(x.tick(1), 0);
        tells(MID, 5, 0, 6, 1, 7, 0, 8, 0);
    }

    @Says(in = "2. A TICK", words = "and its STORE has all needs: these are taken out (WORK is 0).")
    static void whatIsMoreThanTheNeedsStaysInTheStore() {
        due(x.recipe(3, 1, 1, 1, 3, 2, 1, 0), 0);
        machine(MID, RIGHT, 0);
        storeFirst(5);
        storeSecond(1);
        due(x.tick(1), 0);
        tells(MID, 6, 1, 7, 2, 8, 0);
    }

    // ---- offers

    @Says(in = "2. A TICK", words = "Then each PART with an ITEM (a MACHINE with MADE above 0) offers one to a CELL:")
    static void aMachineGivesOneATick() {
        due(x.recipe(3, 4, 1, 1, 1, 0, 0, 0), 0);
        machine(MID, RIGHT, 0);
        sink(ON_RIGHT);
        source(ON_LEFT, RIGHT, 1, 1);
        due(x.tick(1), 0);
        due(x.raze(ON_LEFT), SOURCE);
        due(x.tick(1), 0);
        due(x.part(MID, 2), 0);
        // what is made in a tick is offered in it
        for (int made = 3; made >= 0; made--) {
            due(x.tick(1), 1);
            tells(MID, 4, made, 2, made > 0 ? 3 : 0);
        }
        due(x.tick(1), 0);
        due(x.part(MID, 14), 4);
        due(x.sunk(3), 4);
    }

    @Says(in = "2. A TICK", words = "BELT, EXIT, SOURCE, MACHINE to the next one on the SIDE to which they lead;")
    static void onePastTheNextCellGetsNothing() {
        due(x.recipe(3, 1, 1, 1, 1, 0, 0, 0), 0);
        // a belt, a source, a machine, an exit, and sinks two cells on
        source(at(0, 0), RIGHT, 5, 1);
        belt(at(1, 0), RIGHT);
        sink(at(3, 0));
        source(at(0, 2), RIGHT, 5, 1);
        sink(at(2, 2));
        source(at(0, 4), RIGHT, 1, 1);
        machine(at(1, 4), RIGHT, 0);
        sink(at(3, 4));
        source(at(0, 6), RIGHT, 5, 1);
        tunnel(at(1, 6), RIGHT);
        exit(at(2, 6), RIGHT);
        sink(at(4, 6));
        due(x.tick(20), 0);
        due(x.part(at(1, 0), 2), 5);
        due(x.part(at(0, 2), 2), 5);
        due(x.part(at(1, 4), 2), 3);
        due(x.part(at(2, 6), 2), 5);
        // in the next cell each gets one
        for (int cell : new int[] {at(2, 0), at(1, 2), at(2, 4), at(3, 6)}) sink(cell);
        due(x.tick(1), 4);
    }

    @Says(in = "2. A TICK", words = "BELT, EXIT, SOURCE, MACHINE to the next one on the SIDE to which they lead;")
    static void onlyTheSideToWhichTheyLeadCounts() {
        for (int side = 0; side < 4; side++) {
            for (int kind : new int[] {BELT, SOURCE, MACHINE}) {
                fresh();
                due(x.recipe(3, 1, 1, 1, 1, 0, 0, 0), 0);
                if (kind != SOURCE) source(away(MID, opposite(side), 1), side, 1, 1);
                due(x.build(MID, kind, side, kind == SOURCE ? 1 : 0, 1), 1);
                for (int other = 0; other < 4; other++) {
                    if (other != opposite(side)) sink(away(MID, other, 1));
                }
                due(x.tick(4) > 0 ? 1 : 0, 1);
                for (int other = 0; other < 4; other++) {
                    if (other != opposite(side)) due(x.part(away(MID, other, 1), 13) > 0 ? 1 : 0, other == side ? 1 : 0);
                }
            }
        }
    }

    // ---- tunnels and exits

    /** A cell from which six cells on that side are on the floor. */
    private static int startFor(int side) {
        return side == UP || side == LEFT ? at(7, 7) : at(4, 4);
    }

    private static void feedTunnel(int cell, int side, int item) {
        source(away(cell, opposite(side), 1), side, item, 1);
        tunnel(cell, side);
    }

    @Says(in = "2. A TICK", words = "a TUNNEL to the nearest EXIT of the same SIDE among the next 5 on that SIDE")
    static void aTunnelReachesFiveCellsFar() {
        for (int side = 0; side < 4; side++) {
            for (int far = 1; far <= 5; far++) {
                fresh();
                int start = startFor(side);
                feedTunnel(start, side, 6);
                exit(away(start, side, far), side);
                due(x.tick(2), 0);
                tells(away(start, side, far), 2, 6, 13, 1);
                tells(start, 2, 0, 14, 1);
            }
        }
    }

    @Says(in = "2. A TICK", words = "a TUNNEL to the nearest EXIT of the same SIDE among the next 5 on that SIDE")
    static void aTunnelDoesNotReachSixCellsFar() {
        for (int side = 0; side < 4; side++) {
            fresh();
            int start = startFor(side);
            feedTunnel(start, side, 6);
            exit(away(start, side, 6), side);
            due(x.tick(20), 0);
            tells(away(start, side, 6), 2, 0, 13, 0);
            tells(start, 2, 6, 14, 0);
        }
    }

    @Says(in = "2. A TICK", words = "a TUNNEL to the nearest EXIT of the same SIDE among the next 5 on that SIDE")
    static void aTunnelEndsAtTheBorderOfTheFloor() {
        // the exits would be three cells on if rows and columns went round
        feedTunnel(at(9, 3), RIGHT, 6);
        exit(at(0, 4), RIGHT);
        exit(at(0, 3), RIGHT);
        feedTunnel(at(2, 7), LEFT, 6);
        exit(at(11, 6), LEFT);
        exit(at(11, 7), LEFT);
        feedTunnel(at(5, 2), UP, 6);
        exit(at(5, 11), UP);
        feedTunnel(at(6, 9), DOWN, 6);
        exit(at(6, 0), DOWN);
        due(x.tick(9), 0);
        for (int cell : new int[] {at(9, 3), at(2, 7), at(5, 2), at(6, 9)}) tells(cell, 2, 6, 14, 0);
        due(x.status(3), 8);
    }

    @Says(in = "2. A TICK", words = "a TUNNEL to the nearest EXIT of the same SIDE among the next 5 on that SIDE")
    static void ofSeveralExitsTheNearestCounts() {
        for (int side = 0; side < 4; side++) {
            fresh();
            int start = startFor(side);
            feedTunnel(start, side, 6);
            exit(away(start, side, 5), side);
            exit(away(start, side, 4), side);
            exit(away(start, side, 2), side);
            due(x.tick(2), 0);
            due(x.part(away(start, side, 2), 2), 6);
            // full, it is still the nearest
            due(x.tick(10), 0);
            due(x.part(away(start, side, 4), 13), 0);
            due(x.part(away(start, side, 5), 13), 0);
            due(x.part(start, 14), 1);
            // without it the next one is
            due(x.raze(away(start, side, 2)), EXIT);
            due(x.tick(1), 0);
            due(x.part(away(start, side, 4), 2), 6);
        }
    }

    @Says(in = "2. A TICK", words = "EXIT of the same SIDE")
    static void anExitOfAnotherSideDoesNotCount() {
        for (int side = 0; side < 4; side++) {
            fresh();
            int start = startFor(side);
            feedTunnel(start, side, 6);
            for (int turn = 1; turn <= 3; turn++) exit(away(start, side, turn), (side + turn) % 4);
            due(x.tick(9), 0);
            due(x.part(start, 14), 0);
            exit(away(start, side, 5), side);
            due(x.tick(1), 0);
            due(x.part(away(start, side, 5), 2), 6);
            for (int turn = 1; turn <= 3; turn++) due(x.part(away(start, side, turn), 13), 0);
        }
    }

    @Says(in = "2. A TICK", words = "among the next 5 on that SIDE")
    static void anExitBehindTheTunnelDoesNotCount() {
        tunnel(MID, RIGHT);
        source(ABOVE, DOWN, 6, 1);
        exit(ON_LEFT, RIGHT);
        exit(BELOW, RIGHT);
        exit(at(3, 5), RIGHT);
        due(x.tick(9), 0);
        tells(MID, 2, 6, 14, 0);
    }

    @Says(in = "2. A TICK", words = "(whatever lies between),")
    static void whatLiesBetweenDoesNotCount() {
        for (int round = 0; round < 2; round++) {
            fresh();
            due(x.recipe(3, 1, 1, 6, 1, 0, 0, 0), 0);
            feedTunnel(at(2, 5), RIGHT, 6);
            if (round == 0) {
                sink(at(3, 5));
                machine(at(4, 5), RIGHT, 0);
                belt(at(5, 5), RIGHT);
                splitter(at(6, 5), 6);
            } else {
                tunnel(at(3, 5), RIGHT);
                tunnel(at(4, 5), LEFT);
                exit(at(5, 5), LEFT);
                source(at(6, 5), RIGHT, 1, 60);
            }
            exit(at(7, 5), RIGHT);
            due(x.tick(2), 0);
            due(x.part(at(7, 5), 2), 6);
            for (int column = 3; column <= 6; column++) due(x.part(at(column, 5), 13), 0);
        }
    }

    @Says(in = "2. A TICK", words = {"which doesn't take from any other PART;",
        "an EXIT: it has none, and the giver is such a TUNNEL;"})
    static void anExitTakesFromTunnelsAlone() {
        for (int side = 0; side < 4; side++) {
            // belts, a source, a machine, a splitter that lead to it
            for (int kind : new int[] {BELT, SOURCE, MACHINE, SPLITTER}) {
                fresh();
                due(x.recipe(3, 1, 1, 1, 1, 0, 0, 0), 0);
                exit(MID, RIGHT);
                int giver = away(MID, side, 1);
                int outs = 1 << opposite(side) | 1 << (side + 1) % 4;
                due(x.build(giver, kind, kind == SPLITTER ? outs : opposite(side), kind == SOURCE ? 1 : 0, 1), 1);
                if (kind != SOURCE) source(away(MID, side, 2), opposite(side), 1, 1);
                due(x.tick(9), 0);
                due(x.part(MID, 13), 0);
                due(x.part(giver, 2) > 0 ? 1 : 0, 1);
            }
        }
    }

    @Says(in = "2. A TICK", words = {"which doesn't take from any other PART;",
        "an EXIT: it has none, and the giver is such a TUNNEL;"})
    static void anExitTakesFromNoTunnelOfAnotherSide() {
        // from above and below they lead into it, from the right they lead towards it
        exit(MID, RIGHT);
        feedTunnel(ABOVE, DOWN, 6);
        feedTunnel(BELOW, UP, 6);
        feedTunnel(ON_RIGHT, LEFT, 6);
        due(x.tick(9), 0);
        due(x.part(MID, 13), 0);
        for (int cell : new int[] {ABOVE, BELOW, ON_RIGHT}) tells(cell, 2, 6, 14, 0);
    }

    @Says(in = "2. A TICK", words = "an EXIT: it has none, and the giver is such a TUNNEL;")
    static void aFullExitTakesNone() {
        feedTunnel(ON_LEFT, RIGHT, 6);
        exit(MID, RIGHT);
        due(x.tick(2), 0);
        due(x.part(MID, 2), 6);
        due(x.tick(9), 0);
        tells(MID, 13, 1, 14, 0);
        due(x.part(ON_LEFT, 2), 6);
    }

    // ---- splitters

    @Says(in = "2. A TICK", words = {"a SPLITTER to the first of its OUTS, beginning behind its GAVE and going round",
        "(0, 1, 2, 3, 0, ..),", "GAVE of a SPLITTER that gave the SIDE to which it gave"})
    static void aSplitterGoesRoundItsOuts() {
        for (int outs = 0; outs < 16; outs++) {
            if (Integer.bitCount(outs) == 2 || Integer.bitCount(outs) == 3) {
                fresh();
                splitter(MID, outs);
                for (int side = 0; side < 4; side++) {
                    if ((outs >> side & 1) == 1) sink(away(MID, side, 1));
                    else if (x.part(away(MID, side, 1), 0) == 0) source(away(MID, side, 1), opposite(side), 1, 1);
                }
                due(x.tick(1), 0);
                int gave = 3;
                for (int round = 0; round < 4; round++) {
                    gave = (gave + 1) % 4;
                    while ((outs >> gave & 1) == 0) gave = (gave + 1) % 4;
                    int before = x.part(away(MID, gave, 1), 13);
                    due(x.tick(1), 1);
                    due(x.part(away(MID, gave, 1), 13), before + 1);
                    due(x.part(MID, 10), gave);
                    due(x.tick(1), 0);
                }
            }
        }
    }

    @Says(in = "2. A TICK", words = "whose CELL takes its ITEM.")
    static void aSplitterPassesOverOutsThatDoNotTake() {
        due(x.recipe(3, 1, 1, 2, 1, 0, 0, 0), 0);
        source(ON_LEFT, RIGHT, 1, 1);
        splitter(MID, 7);
        // above a machine that doesn't need it, on the right a belt that leads back: below it goes, every time
        machine(ABOVE, UP, 0);
        belt(ON_RIGHT, LEFT);
        sink(BELOW);
        due(x.tick(11), 5);
        tells(MID, 10, DOWN, 14, 5);
        due(x.part(ABOVE, 13), 0);
        due(x.part(ON_RIGHT, 13), 0);
        // an exit and a source don't take either, nor does a bare cell
        due(x.raze(ABOVE), MACHINE);
        exit(ABOVE, UP);
        due(x.raze(ON_RIGHT), BELT);
        due(x.tick(10), 5);
        due(x.raze(ABOVE), EXIT);
        source(ABOVE, UP, 1, 1);
        due(x.tick(10), 5);
        tells(MID, 10, DOWN, 14, 15);
    }

    @Says(in = "2. A TICK", words = "whose CELL takes its ITEM.")
    static void aSplitterAtTheBorderPassesOverWhatIsBeyond() {
        source(at(0, 0), RIGHT, 1, 1);
        splitter(at(1, 0), 1 + 4);
        sink(at(1, 1));
        due(x.tick(11), 5);
        due(x.part(at(1, 1), 13), 5);
    }

    @Says(in = "2. A TICK", words = "whose CELL takes its ITEM.")
    static void aSplitterWithoutATakerKeepsItsItemAndItsGave() {
        source(ON_LEFT, RIGHT, 1, 1);
        splitter(MID, 6);
        belt(ON_RIGHT, RIGHT);
        due(x.tick(9), 0);
        tells(MID, 2, 1, 10, RIGHT, 14, 1);
        sink(BELOW);
        due(x.tick(1), 1);
        tells(MID, 2, 0, 10, DOWN, 14, 2);
    }

    @Says(in = "2. A TICK", words = "a SPLITTER to the first of its OUTS,")
    static void aSplitterOffersToOneCellATick() {
        // the belt on the right could take it, but takes what comes from above: the sink below gets none in this tick
        source(ON_LEFT, RIGHT, 1, 1);
        splitter(MID, 6);
        belt(ON_RIGHT, RIGHT);
        source(at(6, 4), DOWN, 2, 2);
        sink(BELOW);
        due(x.tick(2), 0);
        due(x.part(ON_RIGHT, 2), 2);
        tells(MID, 2, 1, 10, 3, 14, 0);
        due(x.tick(1), 1);
        tells(MID, 2, 0, 10, DOWN, 14, 1);
    }

    // ---- takers

    @Says(in = "2. A TICK", words = {"A CELL takes an ITEM from a SIDE (on which the giver lies;",
        "TOOK of the taker is that SIDE,"})
    static void tookIsTheSideOnWhichTheGiverLies() {
        for (int side = 0; side < 4; side++) {
            for (int kind : new int[] {BELT, TUNNEL, SPLITTER, MACHINE, SINK}) {
                fresh();
                due(x.recipe(3, 1, 1, 1, 1, 0, 0, 0), 0);
                int lead = kind == SPLITTER ? 15 & ~(1 << side) : (side + 1) % 4;
                due(x.build(MID, kind, lead, 0, 0), 1);
                source(away(MID, side, 1), opposite(side), 1, 1);
                due(x.part(MID, 9), 3);
                due(x.tick(1), kind == SINK ? 1 : 0);
                tells(MID, 9, side, 13, 1);
            }
        }
    }

    @Says(in = "2. A TICK", words = "for an EXIT that of the TUNNEL: the SIDE opposite to that to which it leads),")
    static void tookOfAnExitIsTheSideOppositeToItsLead() {
        for (int side = 0; side < 4; side++) {
            fresh();
            int start = startFor(side);
            feedTunnel(start, side, 6);
            exit(away(start, side, 3), side);
            due(x.part(away(start, side, 3), 9), 3);
            due(x.tick(2), 0);
            tells(away(start, side, 3), 9, opposite(side), 13, 1);
        }
    }

    @Says(in = "2. A TICK", words = "if (as things are then, ahead of all moving):")
    static void aPartThatIsFullAheadOfTheMovingTakesNone() {
        // each belt is full and bare in turns, so every second tick one comes to the sink
        source(at(0, 0), RIGHT, 1, 1);
        belt(at(1, 0), RIGHT);
        belt(at(2, 0), RIGHT);
        sink(at(3, 0));
        due(x.tick(3), 1);
        for (int k = 0; k < 5; k++) {
            due(x.tick(1), 0);
            due(x.tick(1), 1);
        }
    }

    @Says(in = "2. A TICK", words = "if (as things are then, ahead of all moving):")
    static void aFullRingOfBeltsStands() {
        source(at(0, 0), RIGHT, 1, 1);
        belt(at(1, 0), RIGHT);
        belt(at(2, 0), DOWN);
        belt(at(2, 1), LEFT);
        belt(at(1, 1), UP);
        due(x.tick(20), 0);
        due(x.status(3), 5);
        int moved = x.part(at(2, 0), 14);
        due(x.tick(20), 0);
        due(x.part(at(2, 0), 14), moved);
    }

    @Says(in = "2. A TICK", words = "a BELT, TUNNEL: it has none, and the SIDE isn't that to which it leads;")
    static void beltsAndTunnelsTakeFromAllSidesButTheirLead() {
        for (int kind : new int[] {BELT, TUNNEL}) {
            for (int lead = 0; lead < 4; lead++) {
                for (int side = 0; side < 4; side++) {
                    fresh();
                    due(x.build(MID, kind, lead, 0, 0), 1);
                    source(away(MID, side, 1), opposite(side), 8, 1);
                    due(x.tick(1), 0);
                    due(x.part(MID, 2), side == lead ? 0 : 8);
                    due(x.part(away(MID, side, 1), 2), side == lead ? 8 : 0);
                }
            }
        }
    }

    @Says(in = "2. A TICK", words = "a BELT, TUNNEL: it has none,")
    static void aFullBeltAndAFullTunnelTakeNone() {
        for (int kind : new int[] {BELT, TUNNEL}) {
            fresh();
            due(x.build(MID, kind, RIGHT, 0, 0), 1);
            source(ON_LEFT, RIGHT, 8, 1);
            due(x.tick(1), 0);
            source(ABOVE, DOWN, 9, 1);
            due(x.tick(9), 0);
            tells(MID, 2, 8, 13, 1);
        }
    }

    @Says(in = "2. A TICK", words = "a SPLITTER: it has none, and the SIDE is none of its OUTS;")
    static void aSplitterTakesFromNoneOfItsOuts() {
        for (int outs : new int[] {3, 5, 6, 7, 9, 10, 11, 12, 13, 14}) {
            for (int side = 0; side < 4; side++) {
                fresh();
                splitter(MID, outs);
                source(away(MID, side, 1), opposite(side), 8, 1);
                due(x.tick(1), 0);
                due(x.part(MID, 2), (outs >> side & 1) == 1 ? 0 : 8);
            }
        }
    }

    @Says(in = "2. A TICK", words = "a SPLITTER: it has none,")
    static void aFullSplitterTakesNone() {
        splitter(MID, 3);
        source(ON_LEFT, RIGHT, 8, 1);
        source(BELOW, UP, 9, 1);
        due(x.tick(9), 0);
        tells(MID, 2, 9, 13, 1);
    }

    @Says(in = "2. A TICK",
        words = "a MACHINE: the ITEM is a need of which its STORE has less than twice as many as are needed,")
    static void aStoreHoldsTwiceWhatIsNeeded() {
        for (int need = 1; need <= 4; need++) {
            fresh();
            due(x.recipe(3, 1, 1, 1, need, 2, 4, 0), 0);
            due(x.recipe(4, 1, 1, 2, 4, 1, need, 0), 1);
            machine(MID, RIGHT, 0);
            machine(at(5, 9), RIGHT, 1);
            source(ON_LEFT, RIGHT, 1, 1);
            source(at(4, 9), RIGHT, 1, 1);
            due(x.tick(2 * need - 1), 0);
            due(x.part(MID, 7), 2 * need - 1);
            due(x.part(at(5, 9), 8), 2 * need - 1);
            due(x.tick(1), 0);
            due(x.part(MID, 7), 2 * need);
            due(x.part(at(5, 9), 8), 2 * need);
            due(x.tick(9), 0);
            tells(MID, 7, 2 * need, 8, 0, 13, 2 * need);
            tells(at(5, 9), 7, 0, 8, 2 * need, 13, 2 * need);
            due(x.part(ON_LEFT, 2), 1);
        }
    }

    @Says(in = "2. A TICK", words = "a MACHINE: the ITEM is a need")
    static void aMachineTakesNoItemThatItDoesNotNeed() {
        due(x.recipe(3, 1, 1, 1, 1, 0, 0, 0), 0);
        machine(MID, RIGHT, 0);
        source(ON_LEFT, RIGHT, 2, 1);
        source(ABOVE, DOWN, 3, 1);
        source(BELOW, UP, 20, 1);
        due(x.tick(9), 0);
        tells(MID, 7, 0, 8, 0, 13, 0);
    }

    @Says(in = "2. A TICK", words = "and the SIDE isn't that to which it leads; a SINK: always.")
    static void aMachineTakesFromAllSidesButItsLead() {
        for (int lead = 0; lead < 4; lead++) {
            for (int side = 0; side < 4; side++) {
                fresh();
                due(x.recipe(3, 1, 1, 1, 2, 2, 2, 0), 0);
                machine(MID, lead, 0);
                source(away(MID, side, 1), opposite(side), 1 + side % 2, 1);
                due(x.tick(3), 0);
                due(x.part(MID, 13), side == lead ? 0 : 3);
                due(x.part(MID, 7 + side % 2), side == lead ? 0 : 3);
            }
        }
    }

    @Says(in = "2. A TICK", words = "a SINK: always.")
    static void aSinkTakesFromEverySideInEveryTick() {
        for (int side = 0; side < 4; side++) {
            fresh();
            due(x.build(MID, SINK, side, 0, 0), 1);
            source(away(MID, side, 1), opposite(side), 8, 1);
            due(x.tick(200), 200);
            due(x.tick(200), 200);
            tells(MID, 2, 0, 13, 400);
        }
    }

    @Says(in = "2. A TICK", words = "SOURCES and BARE CELLS take none, and there is no CELL beyond the floor.")
    static void sourcesBareCellsAndWhatIsBeyondTakeNone() {
        source(MID, RIGHT, 1, 60);
        source(ON_RIGHT, LEFT, 2, 1);
        source(ON_LEFT, RIGHT, 3, 1);
        source(ABOVE, DOWN, 4, 1);
        source(at(0, 0), UP, 5, 1);
        source(at(11, 0), RIGHT, 5, 1);
        source(at(11, 11), DOWN, 5, 1);
        source(at(0, 11), LEFT, 5, 1);
        source(at(0, 5), RIGHT, 6, 1);
        due(x.tick(9), 0);
        tells(MID, 2, 0, 3, 9, 13, 0);
        for (int cell : new int[] {ON_RIGHT, ON_LEFT, ABOVE, at(0, 0), at(11, 0), at(11, 11), at(0, 11), at(0, 5)}) {
            tells(cell, 14, 0, 2, x.part(cell, 11));
        }
        due(x.status(3), 8);
    }

    // ---- several givers

    @Says(in = "2. A TICK", words = {"Of several that offer to one CELL what it takes, it takes one:",
        "from the first SIDE, beginning behind its TOOK and going round;"})
    static void aTakerGoesRoundItsGivers() {
        // whichever sides give, the next one behind TOOK is taken from, at first behind 3
        for (int givers = 1; givers < 16; givers++) {
            fresh();
            sink(MID);
            for (int side = 0; side < 4; side++) {
                if ((givers >> side & 1) == 1) source(away(MID, side, 1), opposite(side), 1, 1);
            }
            int took = 3;
            for (int tick = 0; tick < 6; tick++) {
                took = (took + 1) % 4;
                while ((givers >> took & 1) == 0) took = (took + 1) % 4;
                due(x.tick(1), 1);
                due(x.part(MID, 9), took);
            }
        }
    }

    @Says(in = "2. A TICK", words = {"Of several that offer to one CELL what it takes, it takes one:",
        "from the first SIDE, beginning behind its TOOK and going round;"})
    static void beltsSplittersTunnelsAndMachinesGoRoundToo() {
        // each leads to a sink or an exit on the right and is bare again in every second tick
        int[] sides = {UP, DOWN, LEFT, UP, DOWN, LEFT};
        for (int kind : new int[] {BELT, TUNNEL, SPLITTER}) {
            fresh();
            due(x.build(MID, kind, kind == SPLITTER ? 2 + 4 + 8 : RIGHT, 0, 0), 1);
            if (kind == TUNNEL) {
                exit(ON_RIGHT, RIGHT);
                sink(at(7, 5));
            } else {
                sink(ON_RIGHT);
            }
            for (int side = 0; side < 4; side++) {
                if (side != RIGHT && (kind != SPLITTER || side == UP)) source(away(MID, side, 1), opposite(side), 1, 1);
            }
            for (int side : sides) {
                x.tick(1);
                due(x.part(MID, 9), kind == SPLITTER ? UP : side);
                x.tick(1);
                due(x.part(MID, 2), 0);
            }
        }
        fresh();
        due(x.recipe(3, 1, 1, 1, 4, 0, 0, 0), 0);
        machine(MID, RIGHT, 0);
        for (int side : new int[] {UP, DOWN, LEFT}) source(away(MID, side, 1), opposite(side), 1, 1);
        for (int side : sides) {
            due(x.tick(1), 0);
            due(x.part(MID, 9), side);
        }
    }

    @Says(in = "2. A TICK", words = "Of several that offer to one CELL what it takes,")
    static void whatACellDoesNotTakeDoesNotCountAmongItsOffers() {
        // item 1 comes from above, the first side behind TOOK 3, but its store is full
        due(x.recipe(3, 1, 1, 1, 1, 2, 2, 0), 0);
        machine(MID, RIGHT, 0);
        source(ABOVE, DOWN, 1, 1);
        due(x.tick(2), 0);
        due(x.part(MID, 7), 2);
        source(ON_LEFT, RIGHT, 2, 1);
        due(x.tick(1), 0);
        tells(MID, 7, 2, 8, 1, 9, LEFT);
        due(x.tick(1), 0);
        tells(MID, 7, 2, 8, 2, 9, LEFT);
    }

    @Says(in = "2. A TICK", words = "of several TUNNELS the nearest.")
    static void ofSeveralTunnelsTheNearestGives() {
        for (int side = 0; side < 4; side++) {
            fresh();
            int start = startFor(side);
            int across = (side + 1) % 4;
            for (int k = 0; k < 3; k++) {
                tunnel(away(start, side, k), side);
                source(away(away(start, side, k), across, 1), opposite(across), 1 + k, 1);
            }
            exit(away(start, side, 4), side);
            sink(away(start, side, 5));
            due(x.tick(21), 10);
            due(x.sunk(3), 10);
            // without its source the nearest runs dry, and the next one is the nearest
            due(x.raze(away(away(start, side, 2), across, 1)), SOURCE);
            x.tick(4);
            int third = x.sunk(3);
            due(x.tick(20), 10);
            due(x.sunk(3), third);
            due(x.sunk(2) > 0 ? 1 : 0, 1);
            due(x.sunk(1), 0);
        }
    }

    @Says(in = "2. A TICK", words = "All that is taken moves at once;")
    static void aPartMayGiveAndTakeInOneTick() {
        due(x.recipe(3, 1, 1, 1, 1, 0, 0, 0), 0);
        source(at(0, 0), RIGHT, 1, 1);
        machine(at(1, 0), RIGHT, 0);
        sink(at(2, 0));
        due(x.tick(2), 0);
        for (int k = 1; k <= 9; k++) {
            due(x.tick(1), 1);
            tells(at(1, 0), 13, 2 + k, 14, k);
        }
    }

    @Says(in = "2. A TICK", words = "(both are 3 at first).")
    static void tookAndGaveAreThreeAtFirst() {
        due(x.recipe(3, 1, 1, 1, 1, 0, 0, 0), 0);
        int[] sides = {0, 0, 0, 0, 3, 0, 0, 0};
        for (int kind = BELT; kind <= SINK; kind++) {
            due(x.build(kind, kind, sides[kind], kind == SOURCE ? 1 : 0, 1), 1);
            tells(kind, 9, 3, 10, 3);
        }
    }

    @Says(in = "2. A TICK", words = "GAVE of a SPLITTER that gave the SIDE to which it gave")
    static void gaveOfOtherPartsStaysThree() {
        due(x.recipe(3, 1, 1, 1, 1, 0, 0, 0), 0);
        source(at(0, 0), RIGHT, 1, 1);
        belt(at(1, 0), RIGHT);
        tunnel(at(2, 0), RIGHT);
        exit(at(3, 0), RIGHT);
        machine(at(4, 0), RIGHT, 0);
        sink(at(5, 0));
        due(x.tick(40) > 0 ? 1 : 0, 1);
        for (int column = 0; column <= 5; column++) due(x.part(at(column, 0), 10), 3);
    }
}
