/** The document's "4. WISHES" and its promises 21 to 23, sentence by sentence. */
public final class WishSentencesTest extends Checks {
    public static void main(String[] args) {
        runAll(WishSentencesTest.class);
    }

    private static void rateIs(int item, long upper, long lower) {
        due(x.rate(item, false), upper);
        due(x.rate(item, true), lower);
    }

    @Says(in = "4. WISHES", words = "A WISH: so many (p by q) of an ITEM each TICK.")
    static void aWishIsARateOfItsItem() {
        due(x.recipe(3, 1, 1, 1, 1, 0, 0, 0), 0);
        due(x.wish(3, 7, 3), 3);
        rateIs(3, 7, 3);
        due(x.wish(3, 60, 1), 60);
        rateIs(3, 60, 1);
        due(x.wish(3, 1, 60), 1);
        rateIs(3, 1, 60);
    }

    @Says(in = "4. WISHES", words = {"Of each ITEM that has a RECIPE, RATE: what the WISH wants of it",
        "and what is needed of it for the others' RATES;"})
    static void whatSeveralNeedIsSummedUp() {
        // 3 from one 4 and two 5; 4 from three 5; 5 from one 1; 1 has no recipe
        due(x.recipe(5, 1, 1, 1, 1, 0, 0, 0), 0);
        due(x.recipe(4, 1, 1, 5, 3, 0, 0, 0), 1);
        due(x.recipe(3, 1, 1, 4, 1, 5, 2, 0), 2);
        due(x.wish(3, 1, 1), 1 + 1 + 5);
        rateIs(3, 1, 1);
        rateIs(4, 1, 1);
        rateIs(5, 5, 1);
        rateIs(1, 5, 1);
    }

    @Says(in = "4. WISHES", words = "and what is needed of it for the others' RATES;")
    static void theOrderOfRecipesDoesNotCount() {
        // 3 from two 4 and one 5, 4 from three 5, 5 from one 6, 6 from one 1: 1, 2, 7 and 7 of them
        int[][] made = {{3, 4, 2, 5, 1}, {4, 5, 3, 0, 0}, {5, 6, 1, 0, 0}, {6, 1, 1, 0, 0}};
        for (int order = 0; order < 24; order++) {
            fresh();
            int left = order;
            boolean[] entered = new boolean[4];
            for (int r = 0; r < 4; r++) {
                int k = left % (4 - r);
                left /= 4 - r;
                int next = 0;
                while (entered[next] || k-- > 0) next++;
                entered[next] = true;
                int[] of = made[next];
                due(x.recipe(of[0], 1, 1, of[1], of[2], of[3], of[4], 0), r);
            }
            due(x.wish(3, 1, 1), 1 + 2 + 7 + 7);
            rateIs(4, 2, 1);
            rateIs(5, 7, 1);
            rateIs(6, 7, 1);
            rateIs(1, 7, 1);
        }
    }

    @Says(in = "4. WISHES", words = "and what is needed of it for the others' RATES;")
    static void whatIsNotNeededHasNoRate() {
        due(x.recipe(3, 1, 1, 1, 1, 0, 0, 0), 0);
        due(x.recipe(4, 1, 1, 3, 1, 0, 0, 0), 1);
        due(x.recipe(5, 1, 1, 1, 1, 0, 0, 0), 2);
        due(x.wish(3, 2, 1), 2);
        rateIs(3, 2, 1);
        rateIs(4, 0, 1);
        rateIs(5, 0, 1);
        due(x.machines(1), 0);
        due(x.machines(2), 0);
    }

    @Says(in = "4. WISHES", words = {"RUNS of the RECIPE: RATE by how many it MAKES;",
        "so many times its needs are wanted of these."})
    static void runsAreTheRateByHowManyItMakes() {
        // 5/2 of item 3, 4 of which are made at once: 5/8 runs, 15/8 of item 1 and 5/2 of item 2
        due(x.recipe(3, 4, 8, 1, 3, 2, 4, 0), 0);
        due(x.wish(3, 5, 2), 5);
        rateIs(3, 5, 2);
        rateIs(1, 15, 8);
        rateIs(2, 5, 2);
    }

    @Says(in = "4. WISHES", words = "so many times its needs are wanted of these.")
    static void runsStayPartsOfOneOverManyRecipes() {
        // each makes 3 and needs 2: the runs are 1/3, 2/9, 4/27; nothing is rounded but machines
        due(x.recipe(3, 3, 1, 4, 2, 0, 0, 0), 0);
        due(x.recipe(4, 3, 1, 5, 2, 0, 0, 0), 1);
        due(x.recipe(5, 3, 1, 1, 2, 0, 0, 0), 2);
        due(x.wish(3, 1, 1), 3);
        rateIs(4, 2, 3);
        rateIs(5, 4, 9);
        rateIs(1, 8, 27);
    }

    @Says(in = "4. WISHES", words = "MACHINES: RUNS times TICKS, rounded up.")
    static void machinesAreRoundedUp() {
        due(x.recipe(3, 2, 6, 1, 1, 0, 0, 0), 0);
        // 1/3 of item 3: 1/6 runs of 6 ticks, 1 machine; a little more: 2; a little less: 1
        due(x.wish(3, 1, 3), 1);
        due(x.wish(3, 19, 56), 2);
        due(x.wish(3, 17, 52), 1);
        due(x.wish(3, 1, 60), 1);
        due(x.wish(3, 60, 1), 180);
        due(x.wish(3, 59, 60), 3);
        due(x.wish(3, 60, 59), 4);
    }

    @Says(in = "4. WISHES", words = "MACHINES: RUNS times TICKS, rounded up.")
    static void eachRecipeIsRoundedByItself() {
        // a tenth of a machine of each of three recipes
        due(x.recipe(3, 1, 1, 4, 1, 5, 1, 0), 0);
        due(x.recipe(4, 1, 1, 1, 1, 0, 0, 0), 1);
        due(x.recipe(5, 1, 1, 1, 1, 0, 0, 0), 2);
        due(x.wish(3, 1, 10), 3);
        for (int r = 0; r < 3; r++) due(x.machines(r), 1);
    }

    @Says(in = "4. WISHES", words = "Without a RECIPE it is RAW: it has a RATE alone.")
    static void aRawItemHasARateAlone() {
        due(x.recipe(3, 1, 10, 1, 4, 2, 1, 0), 0);
        due(x.wish(3, 1, 1), 10);
        rateIs(1, 4, 1);
        rateIs(2, 1, 1);
        due(x.machines(0), 10);
        for (int r = 1; r < 8; r++) due(x.machines(r), 0);
    }

    @Says(in = "4. WISHES", words = "(No WISH of an ITEM that, over RECIPES, needs itself, or an ITEM that does.)")
    static void noWishOfAnItemThatNeedsItself() {
        // 3 from 4, 4 from 5, 5 from 3; 6 from 3; 7 from 1
        due(x.recipe(3, 1, 1, 4, 1, 0, 0, 0), 0);
        due(x.recipe(4, 1, 1, 1, 1, 5, 1, 0), 1);
        due(x.wish(3, 1, 1), 2);
        due(x.recipe(5, 1, 1, 3, 1, 0, 0, 0), 2);
        due(x.recipe(6, 1, 1, 1, 1, 3, 1, 0), 3);
        due(x.recipe(7, 1, 1, 1, 1, 0, 0, 0), 4);
        refused(-6, () -> x.wish(3, 1, 1));
        refused(-6, () -> x.wish(4, 1, 1));
        refused(-6, () -> x.wish(5, 1, 1));
        refused(-6, () -> x.wish(6, 1, 1));
        due(x.wish(7, 1, 1), 1);
    }

    @Says(in = "4. WISHES", words = "(No WISH of an ITEM that, over RECIPES, needs itself, or an ITEM that does.)")
    static void aRingOfEightAndOneOfTwoNeedThemselves() {
        for (int r = 0; r < 8; r++) due(x.recipe(1 + r, 1, 1, 1 + (r + 1) % 8, 1, 0, 0, 0), r);
        for (int r = 0; r < 8; r++) {
            int item = 1 + r;
            refused(-6, () -> x.wish(item, 1, 1));
        }
        fresh();
        due(x.recipe(1, 1, 1, 2, 1, 0, 0, 0), 0);
        due(x.recipe(2, 1, 1, 1, 1, 0, 0, 0), 1);
        refused(-6, () -> x.wish(1, 1, 1));
        refused(-6, () -> x.wish(2, 1, 1));
        // one that is far from the ring
        for (int r = 2; r < 8; r++) due(x.recipe(1 + r, 1, 1, r, 1, 0, 0, 0), r);
        refused(-6, () -> x.wish(8, 1, 1));
    }

    @Says(in = "4. WISHES", words = "(No WISH of an ITEM that, over RECIPES, needs itself, or an ITEM that does.)")
    static void whatIsNeededOnSeveralWaysDoesNotNeedItself() {
        // a chain of eight, each of the next two
        for (int r = 0; r < 8; r++) due(x.recipe(1 + r, 1, 1, 2 + r, 1, 3 + r, 1, 0), r);
        due(x.wish(1, 1, 1), 1 + 1 + 2 + 3 + 5 + 8 + 13 + 21);
        rateIs(9, 34, 1);
        rateIs(10, 21, 1);
    }

    // ---- promise 21

    @Says(in = "Promise 21", words = "A WISH: how many MACHINES all together.")
    static void wishAnswersAllMachines() {
        due(x.recipe(3, 1, 2, 4, 1, 0, 0, 0), 0);
        due(x.recipe(4, 1, 3, 1, 1, 0, 0, 0), 1);
        due(x.wish(3, 5, 1), 10 + 15);
        due(x.machines(0), 10);
        due(x.machines(1), 15);
    }

    @Says(in = "Promise 21", words = "-6 ITEM without a RECIPE,")
    static void noWishOfAnItemWithoutARecipe() {
        refused(-6, () -> x.wish(1, 1, 1));
        due(x.recipe(3, 1, 1, 1, 1, 0, 0, 0), 0);
        refused(-6, () -> x.wish(1, 1, 1));
        refused(-6, () -> x.wish(20, 1, 1));
        refused(-6, () -> x.wish(0, 1, 1));
        refused(-6, () -> x.wish(21, 1, 1));
        refused(-6, () -> x.wish(-1, 1, 1));
        for (int odd : ODD) refused(-6, () -> x.wish(odd, 1, 1));
        due(x.wish(3, 1, 1), 1);
    }

    @Says(in = "Promise 21", words = "p or q not 1 to 60,")
    static void pAndQAreOneToSixty() {
        due(x.recipe(3, 1, 1, 1, 1, 0, 0, 0), 0);
        for (int out : new int[] {0, -1, 61}) {
            refused(-6, () -> x.wish(3, out, 1));
            refused(-6, () -> x.wish(3, 1, out));
        }
        for (int odd : ODD) {
            refused(-6, () -> x.wish(3, odd, 1));
            refused(-6, () -> x.wish(3, 1, odd));
        }
        due(x.wish(3, 1, 1), 1);
        due(x.wish(3, 60, 60), 1);
        rateIs(3, 1, 1);
    }

    @Says(in = "Promise 21", words = "an ITEM that needs itself.")
    static void aRefusedWishLeavesTheLatestOne() {
        due(x.recipe(3, 1, 1, 4, 2, 0, 0, 0), 0);
        due(x.wish(3, 3, 2), 2);
        due(x.recipe(4, 1, 1, 3, 1, 0, 0, 0), 1);
        refused(-6, () -> x.wish(3, 1, 1));
        due(x.machines(0), 2);
        due(x.machines(1), 0);
        rateIs(3, 3, 2);
        rateIs(4, 3, 1);
    }

    // ---- promise 22

    @Says(in = "Promise 22", words = "MACHINES of a RECIPE by the latest wish() that was not refused; 0.")
    static void machinesOfTheLatestWish() {
        for (int r = -1; r <= 8; r++) due(x.machines(r), 0);
        due(x.recipe(3, 1, 2, 1, 1, 0, 0, 0), 0);
        due(x.recipe(4, 1, 3, 1, 1, 0, 0, 0), 1);
        due(x.machines(0), 0);
        due(x.wish(3, 4, 1), 8);
        due(x.machines(0), 8);
        due(x.machines(1), 0);
        due(x.wish(4, 4, 1), 12);
        due(x.machines(0), 0);
        due(x.machines(1), 12);
        refused(-6, () -> x.wish(3, 0, 1));
        refused(-6, () -> x.wish(5, 1, 1));
        due(x.machines(0), 0);
        due(x.machines(1), 12);
        // no such recipe
        due(x.machines(2), 0);
        due(x.machines(-1), 0);
        due(x.machines(8), 0);
        for (int odd : ODD) due(x.machines(odd), 0);
    }

    @Says(in = "Promise 22", words = "by the latest wish() that was not refused; 0.")
    static void aRecipeThatComesAfterTheWishHasNoMachines() {
        due(x.recipe(3, 1, 1, 4, 1, 0, 0, 0), 0);
        due(x.wish(3, 5, 1), 5);
        due(x.recipe(4, 1, 1, 1, 1, 0, 0, 0), 1);
        due(x.machines(1), 0);
        rateIs(4, 5, 1);
        rateIs(1, 0, 1);
        due(x.wish(3, 5, 1), 10);
        due(x.machines(1), 5);
        rateIs(1, 5, 1);
    }

    // ---- promise 23

    @Says(in = "Promise 23",
        words = "The RATE of an ITEM by it, in lowest terms: its upper part (lower false), or its lower one.")
    static void ratesAreInLowestTerms() {
        due(x.recipe(3, 4, 1, 1, 4, 2, 2, 0), 0);
        due(x.wish(3, 48, 36), 1);
        rateIs(3, 4, 3);
        rateIs(1, 4, 3);
        rateIs(2, 2, 3);
        due(x.wish(3, 59, 60), 1);
        rateIs(3, 59, 60);
        rateIs(2, 59, 120);
        due(x.wish(3, 60, 60), 1);
        rateIs(3, 1, 1);
        rateIs(2, 1, 2);
    }

    @Says(in = "Promise 23", words = "in lowest terms:")
    static void theGreatestAndTheLeastRateAreExact() {
        // makes 1 of 4 and 4 of the next two, eight times: 60 to 12 533 760 and 15 129 600
        for (int item = 1; item <= 8; item++) due(x.recipe(item, 1, 60, item + 1, 4, item + 2, 4, 0), item - 1);
        due(x.wish(1, 60, 1), 60 * (60 + 240 + 1200 + 5760 + 27840 + 134400 + 648960 + 3133440));
        rateIs(9, 15129600, 1);
        rateIs(10, 12533760, 1);
        due(x.wish(1, 59, 60) > 0 ? 1 : 0, 1);
        // 4 made of 1, eight times: 1/60 by 4 to the eighth
        fresh();
        for (int item = 1; item <= 8; item++) due(x.recipe(item, 4, 1, item + 1, 1, 0, 0, 0), item - 1);
        due(x.wish(1, 1, 60), 8);
        rateIs(9, 1, 60L * 65536);
        due(x.wish(1, 59, 60), 8);
        rateIs(9, 59, 60L * 65536);
        // 4 made of 2 and 3 made of 1 in turns: 59/49 by 2 to the fourth and by 3 to the fourth
        fresh();
        for (int item = 1; item <= 8; item++) due(x.recipe(item, 3 + item % 2, 1, item + 1, 1 + item % 2, 0, 0, 0), item - 1);
        due(x.wish(1, 59, 49), 8);
        rateIs(9, 59, 49L * 81 * 16);
    }

    @Says(in = "Promise 23", words = "0 and 1: an ITEM of which it wants none, no wish() yet.")
    static void anItemThatIsNotWantedHasRateZeroByOne() {
        for (int item = 0; item <= 21; item++) rateIs(item, 0, 1);
        due(x.recipe(3, 2, 1, 1, 1, 0, 0, 0), 0);
        rateIs(3, 0, 1);
        due(x.wish(3, 1, 7), 1);
        for (int item = 2; item <= 20; item++) {
            if (item != 3) rateIs(item, 0, 1);
        }
        rateIs(1, 1, 14);
        // no such item
        for (int item : new int[] {0, -1, 21}) rateIs(item, 0, 1);
        for (int odd : ODD) rateIs(odd, 0, 1);
    }
}
