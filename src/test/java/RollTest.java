/** Promises 7 to 9: roll, give and block; what they refuse by phase is in RefusalTest. */
public final class RollTest {
    private static final int WOOD = Scenes.WOOD;
    private static final int CLAY = Scenes.CLAY;
    private static final int WOOL = Scenes.WOOL;
    private static final int CORN = Scenes.CORN;
    private static final int ORE = Scenes.ORE;
    private static final int MOST = Integer.MAX_VALUE;
    private static final int LEAST = Integer.MIN_VALUE;

    public static void main(String[] args) {
        rollBrings();
        numbersFirstToLast();
        rollDoublesForTowns();
        rollOfTwoHexes();
        bankHasJustEnoughForSeveral();
        bankHasTooFewForSeveral();
        bankHasTooFewForSeveralOfOneGood();
        bankHasTooFewForTwoOfMore();
        bankHasTooFewForOne();
        bankHasTooFewForATown();
        sevenBringsNothing();
        halfOfMoreThanSeven();
        halfOfTheLastOfFour();
        sevenAndSevenGoods();
        giveHalf();
        giveOfTwo();
        giveRefuses();
        blockTakes();
        blockHexesFirstToLast();
        blockRefuses();
        blockOfNobody();
        blockOfPlayerZero();
        blockEitherOfTwo();
        blockedHexBringsNone();
        Checks.end();
    }

    private static void rollBrings() {
        Checks.sentence("roll: how many goods players got");
        HexIsland x = Scenes.farmsOfTwo();
        Checks.due("roll(6)", x.roll(6), 5);
        Scenes.dueStand("roll(6)", x, 6, 0);
        Scenes.dueHand("roll(6)", x, 0, 1, 1, 1, 2, 2);
        Scenes.dueHand("roll(6)", x, 1, 0, 0, 0, 1, 1);
        Scenes.dueHand("roll(6)", x, -1, 18, 18, 18, 16, 16);
        x.pass();
        Checks.due("roll(8)", x.roll(8), 5);
        Scenes.dueHand("roll(8)", x, 1, 1, 1, 1, 2, 2);
        x.pass();
        Checks.due("roll(2)", x.roll(2), 0);
        x.pass();
        Checks.due("roll(9)", x.roll(9), 0);
        x.pass();
        Checks.due("roll(12)", x.roll(12), 0);
        Scenes.dueHand("nothing more", x, -1, 17, 17, 17, 15, 15);
    }

    private static void numbersFirstToLast() {
        Checks.sentence("roll: IllegalArgumentException when it is not 2 .. 12");
        HexIsland x = Scenes.island(0, WOOD, 2, 3, CLAY, 12);
        x.players(2, 12);
        Scenes.settle(x, 7, 11, 53, 71, 51, 66, 30, 36);
        Checks.illegal("roll(1)", () -> x.roll(1));
        Checks.illegal("roll(13)", () -> x.roll(13));
        Scenes.dueStand("rolls refused", x, 3, 0);
        Checks.due("roll(2)", x.roll(2), 1);
        Scenes.dueHand("roll(2)", x, 0, 1, 0, 0, 0, 0);
        x.pass();
        Checks.due("roll(12)", x.roll(12), 1);
        Scenes.dueHand("roll(12)", x, 0, 1, 1, 0, 0, 0);
        Scenes.dueStand("roll(12)", x, 6, 1);
        Checks.untimely("phase 6: roll(6)", () -> x.roll(6));
        Checks.untimely("phase 6: roll(13)", () -> x.roll(13));
    }

    private static void rollDoublesForTowns() {
        Checks.sentence("each hut beside it claims 1 of its good, each town 2");
        HexIsland x = Scenes.rolled(Scenes.sixes(Scenes.farmsOfTwo(), 2), 6);
        x.place(Scenes.TOWN, 12);
        Scenes.dueHand("a town", x, 0, 3, 3, 3, 2, 1);
        x.pass();
        Checks.due("a town: roll(6)", x.roll(6), 8);
        Scenes.dueHand("a town: roll(6)", x, 0, 5, 5, 5, 3, 2);
    }

    private static void rollOfTwoHexes() {
        Checks.sentence("for each hex with that number");
        HexIsland x = Scenes.island(0, WOOD, 6, 3, WOOD, 6, 4, WOOD, 5, 8, CLAY, 6);
        x.players(2, 12);
        Scenes.settle(x, 12, 19, 34, 50, 41, 60, 24, 28);
        Checks.due("two hexes of a good and a number: roll(6)", x.roll(6), 3);
        Scenes.dueHand("two hexes of a good and a number", x, 0, 2, 0, 0, 0, 0);
        Scenes.dueHand("another player's hex", x, 1, 0, 1, 0, 0, 0);
        x.pass();
        Checks.due("the third hex: roll(5)", x.roll(5), 1);
        x.pass();
        Checks.due("no hex: roll(9)", x.roll(9), 0);
    }

    private static void bankHasJustEnoughForSeveral() {
        Checks.sentence("when the bank has as many of a good as are claimed, all get them");
        HexIsland x = Scenes.island(0, WOOD, 6);
        x.players(2, 12);
        Scenes.settle(x, 0, 0, 7, 10, 53, 71, 8, 12);
        Scenes.sixes(x, 5);
        Scenes.dueHand("three wood left", x, -1, 3, 19, 19, 19, 19);
        Checks.due("three wood for three huts: roll(6)", x.roll(6), 3);
        Scenes.dueHand("three wood for three huts", x, 0, 13, 0, 0, 0, 0);
        Scenes.dueHand("three wood for three huts", x, 1, 6, 0, 0, 0, 0);
        Scenes.dueHand("no wood left", x, -1, 0, 19, 19, 19, 19);
        x.pass();
        Checks.due("no wood left: roll(6)", x.roll(6), 0);
        Scenes.dueHand("no wood left", x, 0, 13, 0, 0, 0, 0);
    }

    private static void bankHasTooFewForSeveral() {
        Checks.sentence("otherwise, if just one player claims it, that one gets what there is, else nobody any");
        HexIsland x = Scenes.island(0, WOOD, 6);
        x.players(2, 12);
        Scenes.settle(x, 0, 0, 53, 71, 7, 10, 8, 12);
        Scenes.sixes(x, 5);
        Scenes.dueHand("two wood left", x, -1, 2, 19, 19, 19, 19);
        Checks.due("two wood for three huts of two: roll(6)", x.roll(6), 0);
        Scenes.dueHand("two wood for three huts of two", x, 0, 11, 0, 0, 0, 0);
        Scenes.dueHand("two wood for three huts of two", x, 1, 6, 0, 0, 0, 0);
        Scenes.dueHand("two wood for three huts of two", x, -1, 2, 19, 19, 19, 19);
        Scenes.dueStand("two wood for three huts of two", x, 6, 1);
    }

    private static void bankHasTooFewForSeveralOfOneGood() {
        Checks.sentence("when the bank has as many of a good as are claimed, of each good for itself");
        HexIsland x = Scenes.island(0, WOOD, 6, 18, CLAY, 6);
        x.players(2, 12);
        Scenes.settle(x, 0, 0, 7, 10, 53, 71, 51, 66);
        Scenes.sixes(x, 9);
        Scenes.dueHand("one wood left", x, -1, 1, 9, 19, 19, 19);
        Checks.due("one wood for two: roll(6)", x.roll(6), 1);
        Scenes.dueHand("one wood for two", x, 0, 9, 0, 0, 0, 0);
        Scenes.dueHand("one wood for two", x, 1, 9, 11, 0, 0, 0);
        Scenes.dueHand("one wood for two", x, -1, 1, 8, 19, 19, 19);
    }

    private static void bankHasTooFewForTwoOfMore() {
        Checks.sentence("if just one player claims it, that one gets what there is, else nobody any");
        int[] ofThree = {0, 0, 7, 10, 53, 71, 51, 66, 26, 38, 30, 36};
        int[] ofFour = {0, 0, 7, 10, 53, 71, 51, 66, 26, 38, 30, 36, 21, 33, 2, 4};
        for (int n = 3; n <= 4; n++) {
            HexIsland x = Scenes.island(0, WOOD, 6);
            x.players(n, 12);
            Scenes.settle(x, n == 3 ? ofThree : ofFour);
            Scenes.sixes(x, 9);
            Scenes.dueHand("one wood left", x, -1, 1, 19, 19, 19, 19);
            Checks.due("one wood for two of " + n + ": roll(6)", x.roll(6), 0);
            Scenes.dueHand("one wood for two of " + n, x, 0, 9, 0, 0, 0, 0);
            Scenes.dueHand("one wood for two of " + n, x, 1, 9, 0, 0, 0, 0);
            Scenes.dueHand("one wood for two of " + n, x, 2, 0, 0, 0, 0, 0);
        }
    }

    private static void bankHasTooFewForOne() {
        Checks.sentence("otherwise, if just one player claims it, that one gets what there is");
        HexIsland x = Scenes.island(0, WOOD, 6, 1, WOOD, 6);
        x.players(2, 12);
        Scenes.settle(x, 4, 1, 53, 71, 51, 66, 30, 36);
        Scenes.sixes(x, 8);
        Scenes.dueHand("three wood left", x, -1, 3, 19, 19, 19, 19);
        Checks.due("three wood for two: roll(6)", x.roll(6), 2);
        x.pass();
        Checks.due("one wood for two of one player: roll(6)", x.roll(6), 1);
        Scenes.dueHand("one wood for two of one player", x, 0, 19, 0, 0, 0, 0);
        Scenes.dueHand("one wood for two of one player", x, -1, 0, 19, 19, 19, 19);
        x.pass();
        Checks.due("no wood for two of one player: roll(6)", x.roll(6), 0);
        Scenes.dueHand("no wood for two of one player", x, 0, 19, 0, 0, 0, 0);
    }

    private static void bankHasTooFewForATown() {
        Checks.sentence("otherwise, if just one player claims it, that one gets what there is");
        HexIsland x = Scenes.sixes(Scenes.farmsOfTwo(), 2);
        x.roll(2);
        x.place(Scenes.TOWN, 12);
        x.pass();
        Scenes.sixes(x, 8);
        Scenes.dueHand("one wood left", x, 0, 18, 18, 18, 9, 8);
        Checks.due("one of each left", x.roll(6), 5);
        Scenes.dueHand("one of each left", x, 0, 19, 19, 19, 10, 9);
        Scenes.dueHand("one of each left", x, -1, 0, 0, 0, 8, 9);
        x.pass();
        Checks.due("none left", x.roll(6), 2);
        Scenes.dueHand("none left", x, 0, 19, 19, 19, 11, 10);
    }

    private static void sevenBringsNothing() {
        Checks.sentence("A 7: each player with more than 7 goods then must give half of them to the bank, in GIVING;"
            + " then, or if none must, comes BLOCKING");
        HexIsland x = Scenes.farmsOfTwo();
        Checks.due("few goods: roll(7)", x.roll(7), 0);
        Scenes.dueStand("few goods: roll(7)", x, 5, 0);
        Scenes.dueHand("few goods: roll(7)", x, 0, 0, 0, 0, 1, 1);
        Scenes.dueHand("few goods: roll(7)", x, -1, 19, 19, 19, 17, 17);
        HexIsland y = Scenes.sixes(Scenes.farmsOfTwo(), 2);
        Checks.due("many goods: roll(7)", y.roll(7), 0);
        Scenes.dueStand("many goods: roll(7)", y, 4, 0);
        Scenes.dueHand("many goods: roll(7)", y, 0, 2, 2, 2, 3, 3);
    }

    private static void halfOfMoreThanSeven() {
        Checks.sentence("each player with more than 7 goods then must give half of them (rounded down)");
        int[][] hands = {{1, 1, 1, 2, 2}, {1, 1, 2, 2, 2}, {2, 1, 2, 2, 2}, {2, 2, 2, 2, 2}, {2, 2, 2, 2, 3}, {5, 1, 2, 2, 2}};
        int[] halves = {0, 4, 4, 5, 5, 6};
        for (int k = 0; k < hands.length; k++) {
            HexIsland x = Scenes.keep(Scenes.rolled(Scenes.sixes(Scenes.farmsOfTwo(), 4), 6), hands[k]);
            x.pass();
            x.roll(7);
            Scenes.dueStand("player 1 has many", x, 4, 1);
            if (halves[k] == 0) {
                Checks.illegal("seven goods: give(0, 4)", () -> x.give(0, ORE));
            } else {
                Checks.due("half of " + hands[k][0] + " wood and more: give(0, 4)", x.give(0, ORE), halves[k] - 1);
            }
        }
    }

    private static void halfOfTheLastOfFour() {
        Checks.sentence("each player with more than 7 goods then must give half of them (rounded down) to the bank");
        HexIsland x = Scenes.island(0, WOOD, 6, 1, WOOD, 6);
        x.players(4, 12);
        Scenes.settle(x, 53, 71, 51, 66, 26, 38, 4, 1, 30, 36, 21, 33, 38, 54, 12, 19);
        Scenes.dueHand("player 0's second hut", x, 0, 1, 0, 0, 0, 0);
        Scenes.sixes(x, 4);
        Scenes.dueHand("player 3", x, 3, 8, 0, 0, 0, 0);
        Scenes.dueHand("player 0", x, 0, 5, 0, 0, 0, 0);
        x.roll(7);
        Scenes.dueStand("player 3 must give", x, 4, 0);
        for (int player : new int[] {-1, 0, 1, 2, 4}) {
            Checks.illegal("give(" + player + ", 0)", () -> x.give(player, WOOD));
        }
        for (int left = 3; left >= 0; left--) {
            Scenes.dueStand("player 3 must give", x, 4, 0);
            Checks.due("give(3, 0)", x.give(3, WOOD), left);
        }
        Scenes.dueStand("player 3 has given", x, 5, 0);
        Scenes.dueHand("player 3 has given", x, 3, 4, 0, 0, 0, 0);
        Scenes.dueHand("player 3 has given", x, -1, 10, 19, 19, 19, 19);
    }

    private static void sevenAndSevenGoods() {
        Checks.sentence("each player with more than 7 goods then must give half of them");
        HexIsland x = Scenes.turns(Scenes.farmsOfTwo(), 6);
        Checks.due("seven goods: roll(7)", x.roll(7), 0);
        Scenes.dueStand("seven goods: roll(7)", x, 5, 1);
        Scenes.dueHand("seven goods: roll(7)", x, 0, 1, 1, 1, 2, 2);
        Checks.untimely("seven goods: give(0, 0)", () -> x.give(0, WOOD));
        Checks.due("an eighth good", x.block(18, -1, 0), -1);
        x.offer(0, Scenes.bundle(0, 0, 0, 1, 0), 0);
        x.accept();
        x.pass();
        Checks.due("eight goods: roll(7)", x.roll(7), 0);
        Scenes.dueStand("eight goods: roll(7)", x, 4, 0);
        Checks.due("eight goods: give(0, 3)", x.give(0, CORN), 3);
    }

    private static void giveHalf() {
        Checks.sentence("give: how many that player must still give");
        HexIsland x = Scenes.turns(Scenes.farmsOfTwo(), 6, 2);
        x.roll(2);
        x.pass();
        x.roll(2);
        x.offer(0, Scenes.bundle(0, 0, 0, 1, 1), 0);
        x.accept();
        x.pass();
        Scenes.dueHand("nine goods", x, 0, 1, 1, 1, 3, 3);
        x.roll(7);
        Scenes.dueStand("nine goods: roll(7)", x, 4, 0);
        Checks.due("nine goods: give(0, 4)", x.give(0, ORE), 3);
        Checks.due("nine goods: give(0, 4)", x.give(0, ORE), 2);
        Checks.due("nine goods: give(0, 0)", x.give(0, WOOD), 1);
        Checks.illegal("nine goods: give(0, 0)", () -> x.give(0, WOOD));
        Scenes.dueStand("one to give", x, 4, 0);
        Checks.due("nine goods: give(0, 4)", x.give(0, ORE), 0);
        Scenes.dueStand("nine goods, all given", x, 5, 0);
        Scenes.dueHand("nine goods, all given", x, 0, 0, 1, 1, 3, 0);
        Scenes.dueHand("nine goods, all given", x, -1, 19, 18, 18, 16, 19);
        Checks.untimely("all given: give(0, 1)", () -> x.give(0, CLAY));
    }

    private static void giveOfTwo() {
        Checks.sentence("in GIVING; then comes BLOCKING");
        HexIsland x = Scenes.turns(Scenes.farmsOfTwo(), 6, 8, 6, 8);
        x.roll(7);
        for (int k = 5; k >= 0; k--) {
            Checks.due("player 1 gives", x.give(1, k % 2 == 0 ? CORN : ORE), k);
        }
        Scenes.dueStand("player 0 is still to give", x, 4, 0);
        Checks.illegal("player 1 has given: give(1, 0)", () -> x.give(1, WOOD));
        Checks.due("player 0 gives", x.give(0, WOOD), 5);
        for (int k = 4; k >= 0; k--) {
            Checks.due("player 0 gives", x.give(0, k < 2 ? CORN : k == 2 ? WOOL : CLAY), k);
        }
        Scenes.dueStand("both have given", x, 5, 0);
        Scenes.dueHand("both have given", x, 0, 1, 0, 1, 1, 3);
        Scenes.dueHand("both have given", x, 1, 2, 2, 2, 0, 0);
    }

    private static void giveRefuses() {
        Checks.sentence("give: IllegalArgumentException when there is no such player or good, the player must give"
            + " none, or has none of it");
        HexIsland x = Scenes.turns(Scenes.farmsOfTwo(), 6, 6);
        Checks.untimely("phase 3: give(0, 0)", () -> x.give(0, WOOD));
        Checks.untimely("phase 3: give(7, 7)", () -> x.give(7, 7));
        x.roll(7);
        int[][] wrong = {{-1, 0}, {2, 0}, {0, -1}, {0, 5}, {1, 3}, {1, 4}, {LEAST, 0}, {0, MOST}};
        for (int[] w : wrong) {
            Checks.illegal("give(" + w[0] + ", " + w[1] + ")", () -> x.give(w[0], w[1]));
        }
        Checks.untimely("phase 4: roll(6)", () -> x.roll(6));
        Checks.untimely("phase 4: block(0, -1, 0)", () -> x.block(0, -1, 0));
        Checks.untimely("phase 4: pass()", () -> x.pass());
        Checks.untimely("phase 4: place(0, 11)", () -> x.place(0, 11));
        Checks.untimely("phase 4: buy()", () -> x.buy());
        Checks.untimely("phase 4: bank(0, 1)", () -> x.bank(0, 1));
        Checks.due("give(0, 0)", x.give(0, WOOD), 5);
    }

    private static HexIsland sevenRolled() {
        HexIsland x = Scenes.turns(Scenes.farmsOfTwo(), 2, 8);
        x.roll(7);
        return x;
    }

    private static void blockTakes() {
        Checks.sentence("the card number index (from 0, in order of goods; that modulo how many there are)");
        int[] goods = {WOOD, CLAY, WOOL, CORN, CORN, ORE, ORE};
        for (int index = 0; index < 15; index++) {
            HexIsland x = sevenRolled();
            Checks.due("block(8, 1, " + index + ")", x.block(8, 1, index), goods[index % 7]);
            Scenes.dueStand("block", x, 6, 0);
            int[] hand = {1, 1, 1, 2, 2};
            int[] own = {0, 0, 0, 1, 1};
            hand[goods[index % 7]]--;
            own[goods[index % 7]]++;
            Scenes.dueHand("block", x, 1, hand);
            Scenes.dueHand("block", x, 0, own);
            Scenes.dueHand("block", x, -1, 18, 18, 18, 16, 16);
        }
        Checks.due("block(8, 1, most)", sevenRolled().block(8, 1, MOST), goods[MOST % 7]);
    }

    private static void blockHexesFirstToLast() {
        Checks.sentence("block: IllegalArgumentException when there is no such hex, it is blocked now");
        for (int h = -1; h <= 19; h++) {
            int hex = h;
            HexIsland x = sevenRolled();
            boolean besideOne = h == 8 || h >= 12 && h <= 15 || h == 18;
            if (h < 0 || h > 18 || h == 1) {
                Checks.illegal("block(" + h + ", -1, 0)", () -> x.block(hex, -1, 0));
                Scenes.dueStand("block refused", x, 5, 0);
            } else {
                Checks.due("block(" + h + ")", x.block(h, besideOne ? 1 : -1, 0), besideOne ? WOOD : -1);
                x.pass();
                x.roll(7);
                Checks.illegal("blocked now: block(" + h + ", -1, 0)", () -> x.block(hex, -1, 0));
                Checks.due("no longer blocked: block(1, -1, 0)", x.block(1, -1, 0), -1);
            }
        }
    }

    private static void blockRefuses() {
        Checks.sentence("block: IllegalArgumentException when index is below 0, or victim is not such a player; or"
            + " victim is NONE and there is such a one");
        HexIsland x = sevenRolled();
        int[][] wrong = {{-1, -1, 0}, {19, -1, 0}, {1, -1, 0}, {8, 1, -1}, {8, 1, LEAST}, {0, -1, -1}, {8, -1, 0},
            {8, 0, 0}, {0, 0, 0}, {8, 2, 0}, {8, -2, 0}, {0, 1, 0}, {10, 1, 0}, {MOST, 1, 0}, {8, MOST, 0}};
        for (int[] w : wrong) {
            Checks.illegal("block(" + w[0] + ", " + w[1] + ", " + w[2] + ")", () -> x.block(w[0], w[1], w[2]));
        }
        Scenes.dueStand("blocks refused", x, 5, 0);
        Checks.untimely("phase 5: roll(6)", () -> x.roll(6));
        Checks.untimely("phase 5: pass()", () -> x.pass());
        x.block(8, 1, 0);
        Checks.untimely("phase 6: block(0, -1, 0)", () -> x.block(0, -1, 0));
        Checks.untimely("phase 6: block(99, -1, 0)", () -> x.block(99, -1, 0));
    }

    private static void blockOfNobody() {
        Checks.sentence("block: the good, NONE for none taken");
        HexIsland x = sevenRolled();
        Checks.due("own hut alone: block(0, -1, 3)", x.block(0, -1, 3), -1);
        Scenes.dueStand("block(0, -1, 3)", x, 6, 0);
        x.pass();
        x.roll(2);
        x.offer(0, Scenes.bundle(1, 1, 1, 2, 2), 0);
        x.accept();
        x.pass();
        x.roll(7);
        for (int good = 0; x.phase() == 4; good = (good + 1) % 5) {
            x.give(0, good);
        }
        Checks.illegal("a victim without goods: block(8, 1, 0)", () -> x.block(8, 1, 0));
        Checks.illegal("blocked now: block(0, -1, 0)", () -> x.block(0, -1, 0));
        Checks.due("nobody has goods: block(8, -1, 0)", x.block(8, -1, 0), -1);
        HexIsland y = Scenes.turns(Scenes.farmsOfTwo(), 8, 8, 8);
        y.roll(2);
        y.place(Scenes.TOWN, 34);
        y.pass();
        y.roll(7);
        while (y.phase() == 4) {
            y.give(1, WOOD + (y.goods(1, WOOD) > 0 ? 0 : 1));
        }
        Checks.illegal("a town: block(12, -1, 0)", () -> y.block(12, -1, 0));
        Checks.due("a town: block(12, 1, 0)", y.block(12, 1, 0), WOOL);
    }

    private static void blockOfPlayerZero() {
        Checks.sentence("block: another player, who has a hut or town beside it and goods");
        HexIsland x = Scenes.farmsOfTwo();
        x.roll(2);
        x.offer(1, Scenes.bundle(0, 0, 0, 1, 0), 0);
        x.accept();
        x.pass();
        x.roll(7);
        Checks.illegal("a victim with one good: block(0, -1, 0)", () -> x.block(0, -1, 0));
        Checks.illegal("the player itself: block(8, 1, 0)", () -> x.block(8, 1, 0));
        Checks.due("a victim with one good: block(0, 0, 6)", x.block(0, 0, 6), ORE);
        Scenes.dueHand("a victim with one good", x, 0, 0, 0, 0, 0, 0);
        Scenes.dueHand("a victim with one good", x, 1, 0, 0, 0, 2, 2);
    }

    private static void blockEitherOfTwo() {
        Checks.sentence("block: takes from another player, who has a hut or town beside it and goods");
        for (int victim = -1; victim <= 3; victim++) {
            HexIsland x = Scenes.turns(Scenes.farmsOfThree(), 8, 9, 9);
            x.roll(2);
            x.pass();
            x.roll(7);
            int from = victim;
            if (victim == 0 || victim == 2) {
                Checks.due("block(10, " + victim + ", 0)", x.block(10, victim, 0), victim == 0 ? CORN : WOOD);
                Checks.due("one less", x.goods(victim, victim == 0 ? CORN : WOOD), victim == 0 ? 0 : 1);
            } else {
                Checks.illegal("block(10, " + victim + ", 0)", () -> x.block(10, from, 0));
            }
        }
    }

    private static void blockedHexBringsNone() {
        Checks.sentence("for each hex with that number that is not BLOCKED");
        HexIsland x = sevenRolled();
        x.block(8, 1, 0);
        x.pass();
        Checks.due("hex 8 blocked: roll(8)", x.roll(8), 4);
        Scenes.dueHand("hex 8 blocked", x, 1, 0, 2, 2, 3, 3);
        Checks.due("hex 8 blocked: forecast", x.forecast(1, WOOD, 1), 0);
        x.pass();
        x.roll(7);
        while (x.phase() == 4) {
            x.give(1, x.goods(1, CORN) > 0 ? CORN : ORE);
        }
        x.block(1, -1, 0);
        Checks.due("hex 1 blocked: forecast", x.forecast(1, WOOD, 1), 5);
        x.pass();
        Checks.due("hex 1 blocked: roll(8)", x.roll(8), 5);
    }
}
