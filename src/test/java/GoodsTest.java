/** Promises 7 to 12, 20 and 27: roll, give, block, bank, offer, accept, goods and forecast. */
public final class GoodsTest {
    private static final int WOOD = Scenes.WOOD;
    private static final int CLAY = Scenes.CLAY;
    private static final int WOOL = Scenes.WOOL;
    private static final int CORN = Scenes.CORN;
    private static final int ORE = Scenes.ORE;
    private static final int MOST = Integer.MAX_VALUE;
    private static final int LEAST = Integer.MIN_VALUE;

    public static void main(String[] args) {
        rollBrings();
        rollRefuses();
        rollDoublesForTowns();
        rollWithTooFewForOne();
        rollWithTooFewForSeveral();
        sevenAndSevenGoods();
        giveHalf();
        giveOfTwo();
        giveRefuses();
        blockTakes();
        blockRefuses();
        blockOfNobody();
        blockOfPlayerZero();
        blockedHexBringsNone();
        bankPrices();
        bankPortsAtBothCorners();
        bankRefuses();
        bankLacks();
        offerRefuses();
        offerIsTaken();
        offerIsReplacedAndGone();
        acceptRefuses();
        goodsTells();
        forecastTells();
        forecastRefuses();
        Checks.end();
    }

    private static void rollBrings() {
        HexIsland x = Scenes.farmsOfTwo();
        Checks.due("roll(6)", x.roll(6), 5);
        Scenes.dueStand("roll(6)", x, 6, 0);
        Scenes.dueHand("roll(6)", x, 0, 1, 1, 1, 2, 2);
        Scenes.dueHand("roll(6)", x, 1, 0, 0, 0, 1, 1);
        Scenes.dueHand("roll(6)", x, -1, 18, 18, 18, 16, 16);
        x.pass();
        Checks.due("roll(8)", x.roll(8), 5);
        Scenes.dueHand("roll(8)", x, 1, 1, 1, 1, 2, 2);
        x.pass();
        Checks.due("roll(2)", x.roll(2), 0);
        x.pass();
        Checks.due("roll(9)", x.roll(9), 0);
        x.pass();
        Checks.due("roll(12)", x.roll(12), 0);
        Scenes.dueHand("nothing more", x, -1, 17, 17, 17, 15, 15);
    }

    private static void rollRefuses() {
        HexIsland x = Scenes.farmsOfTwo();
        for (int number : new int[] {1, 13, 0, -6, LEAST, MOST}) {
            Checks.illegal("roll(" + number + ")", () -> x.roll(number));
        }
        Scenes.dueStand("rolls refused", x, 3, 0);
        x.roll(6);
        Checks.untimely("phase 6: roll(6)", () -> x.roll(6));
        Checks.untimely("phase 6: roll(13)", () -> x.roll(13));
        HexIsland y = new HexIsland();
        y.players(2, 3);
        Checks.untimely("phase 1: roll(6)", () -> y.roll(6));
    }

    private static void rollDoublesForTowns() {
        HexIsland x = Scenes.sixes(Scenes.farmsOfTwo(), 2);
        x.roll(6);
        x.place(Scenes.TOWN, 12);
        Scenes.dueHand("a town", x, 0, 3, 3, 3, 2, 1);
        x.pass();
        Checks.due("a town: roll(6)", x.roll(6), 8);
        Scenes.dueHand("a town: roll(6)", x, 0, 5, 5, 5, 3, 2);
        HexIsland y = Scenes.island(0, WOOD, 6, 3, WOOD, 6, 4, WOOD, 5);
        y.players(2, 12);
        Scenes.settle(y, 12, 19, 34, 50, 41, 60, 24, 28);
        Checks.due("two hexes of a good and a number: roll(6)", y.roll(6), 2);
        Scenes.dueHand("two hexes of a good and a number", y, 0, 2, 0, 0, 0, 0);
    }

    private static void rollWithTooFewForOne() {
        HexIsland x = Scenes.sixes(Scenes.farmsOfTwo(), 2);
        x.roll(2);
        x.place(Scenes.TOWN, 12);
        x.pass();
        Scenes.sixes(x, 8);
        Scenes.dueHand("one wood left", x, 0, 18, 18, 18, 9, 8);
        Checks.due("one of each left", x.roll(6), 5);
        Scenes.dueHand("one of each left", x, 0, 19, 19, 19, 10, 9);
        Scenes.dueHand("one of each left", x, -1, 0, 0, 0, 8, 9);
        x.pass();
        Checks.due("none left", x.roll(6), 2);
        Scenes.dueHand("none left", x, 0, 19, 19, 19, 11, 10);
    }

    private static void rollWithTooFewForSeveral() {
        HexIsland x = Scenes.island(0, WOOD, 6, 18, CLAY, 6);
        x.players(2, 12);
        Scenes.settle(x, 0, 0, 7, 10, 53, 71, 51, 66);
        Scenes.sixes(x, 9);
        Scenes.dueHand("one wood left", x, -1, 1, 9, 19, 19, 19);
        Checks.due("one wood for two: roll(6)", x.roll(6), 1);
        Scenes.dueHand("one wood for two", x, 0, 9, 0, 0, 0, 0);
        Scenes.dueHand("one wood for two", x, 1, 9, 11, 0, 0, 0);
        Scenes.dueHand("one wood for two", x, -1, 1, 8, 19, 19, 19);
        HexIsland y = Scenes.island(0, WOOD, 6);
        y.players(2, 12);
        Scenes.settle(y, 0, 0, 7, 10, 53, 71, 8, 12);
        Scenes.sixes(y, 5);
        Scenes.dueHand("three wood left", y, -1, 3, 19, 19, 19, 19);
        Checks.due("three wood for three huts: roll(6)", y.roll(6), 3);
        Scenes.dueHand("three wood for three huts", y, 0, 13, 0, 0, 0, 0);
        Scenes.dueHand("three wood for three huts", y, 1, 6, 0, 0, 0, 0);
        y.pass();
        Checks.due("no wood left: roll(6)", y.roll(6), 0);
    }

    private static void sevenAndSevenGoods() {
        HexIsland x = Scenes.turns(Scenes.farmsOfTwo(), 6);
        Checks.due("seven goods: roll(7)", x.roll(7), 0);
        Scenes.dueStand("seven goods: roll(7)", x, 5, 1);
        Scenes.dueHand("seven goods: roll(7)", x, 0, 1, 1, 1, 2, 2);
        Checks.untimely("seven goods: give(0, 0)", () -> x.give(0, WOOD));
        Checks.due("an eighth good", x.block(18, -1, 0), -1);
        x.offer(0, Scenes.bundle(0, 0, 0, 1, 0), 0);
        x.accept();
        x.pass();
        Checks.due("eight goods: roll(7)", x.roll(7), 0);
        Scenes.dueStand("eight goods: roll(7)", x, 4, 0);
        Checks.due("eight goods: give(0, 3)", x.give(0, CORN), 3);
    }

    private static void giveHalf() {
        HexIsland x = Scenes.turns(Scenes.farmsOfTwo(), 6, 2);
        x.roll(2);
        x.pass();
        x.roll(2);
        x.offer(0, Scenes.bundle(0, 0, 0, 1, 1), 0);
        x.accept();
        x.pass();
        Scenes.dueHand("nine goods", x, 0, 1, 1, 1, 3, 3);
        x.roll(7);
        Scenes.dueStand("nine goods: roll(7)", x, 4, 0);
        Checks.due("nine goods: give(0, 4)", x.give(0, ORE), 3);
        Checks.due("nine goods: give(0, 4)", x.give(0, ORE), 2);
        Checks.due("nine goods: give(0, 0)", x.give(0, WOOD), 1);
        Checks.illegal("nine goods: give(0, 0)", () -> x.give(0, WOOD));
        Scenes.dueStand("one to give", x, 4, 0);
        Checks.due("nine goods: give(0, 4)", x.give(0, ORE), 0);
        Scenes.dueStand("nine goods, all given", x, 5, 0);
        Scenes.dueHand("nine goods, all given", x, 0, 0, 1, 1, 3, 0);
        Scenes.dueHand("nine goods, all given", x, -1, 19, 18, 18, 16, 19);
        Checks.untimely("all given: give(0, 1)", () -> x.give(0, CLAY));
    }

    private static void giveOfTwo() {
        HexIsland x = Scenes.turns(Scenes.farmsOfTwo(), 6, 8, 6, 8);
        x.roll(7);
        for (int k = 5; k >= 0; k--) {
            Checks.due("player 1 gives", x.give(1, k % 2 == 0 ? CORN : ORE), k);
        }
        Scenes.dueStand("player 0 is still to give", x, 4, 0);
        Checks.illegal("player 1 has given: give(1, 0)", () -> x.give(1, WOOD));
        Checks.due("player 0 gives", x.give(0, WOOD), 5);
        for (int k = 4; k >= 0; k--) {
            Checks.due("player 0 gives", x.give(0, k < 2 ? CORN : k == 2 ? WOOL : CLAY), k);
        }
        Scenes.dueStand("both have given", x, 5, 0);
        Scenes.dueHand("both have given", x, 0, 1, 0, 1, 1, 3);
        Scenes.dueHand("both have given", x, 1, 2, 2, 2, 0, 0);
    }

    private static void giveRefuses() {
        HexIsland x = Scenes.turns(Scenes.farmsOfTwo(), 6, 6);
        Checks.untimely("phase 3: give(0, 0)", () -> x.give(0, WOOD));
        Checks.untimely("phase 3: give(7, 7)", () -> x.give(7, 7));
        x.roll(7);
        int[][] wrong = {{-1, 0}, {2, 0}, {0, -1}, {0, 5}, {1, 3}, {1, 4}, {LEAST, 0}, {0, MOST}};
        for (int[] w : wrong) {
            Checks.illegal("give(" + w[0] + ", " + w[1] + ")", () -> x.give(w[0], w[1]));
        }
        Checks.untimely("phase 4: roll(6)", () -> x.roll(6));
        Checks.untimely("phase 4: block(0, -1, 0)", () -> x.block(0, -1, 0));
        Checks.untimely("phase 4: pass()", () -> x.pass());
        Checks.untimely("phase 4: place(0, 11)", () -> x.place(0, 11));
        Checks.untimely("phase 4: buy()", () -> x.buy());
        Checks.untimely("phase 4: bank(0, 1)", () -> x.bank(0, 1));
        Checks.due("give(0, 0)", x.give(0, WOOD), 5);
    }

    private static HexIsland sevenRolled() {
        HexIsland x = Scenes.turns(Scenes.farmsOfTwo(), 2, 8);
        x.roll(7);
        return x;
    }

    private static void blockTakes() {
        int[] goods = {WOOD, CLAY, WOOL, CORN, CORN, ORE, ORE};
        for (int index = 0; index < 15; index++) {
            HexIsland x = sevenRolled();
            Checks.due("block(8, 1, " + index + ")", x.block(8, 1, index), goods[index % 7]);
            Scenes.dueStand("block", x, 6, 0);
            int[] hand = {1, 1, 1, 2, 2};
            int[] own = {0, 0, 0, 1, 1};
            hand[goods[index % 7]]--;
            own[goods[index % 7]]++;
            Scenes.dueHand("block", x, 1, hand);
            Scenes.dueHand("block", x, 0, own);
            Scenes.dueHand("block", x, -1, 18, 18, 18, 16, 16);
        }
        Checks.due("block(8, 1, most)", sevenRolled().block(8, 1, MOST), goods[MOST % 7]);
    }

    private static void blockRefuses() {
        HexIsland x = sevenRolled();
        int[][] wrong = {{-1, -1, 0}, {19, -1, 0}, {1, -1, 0}, {8, 1, -1}, {8, 1, LEAST}, {0, -1, -1}, {8, -1, 0},
            {8, 0, 0}, {0, 0, 0}, {8, 2, 0}, {8, -2, 0}, {0, 1, 0}, {10, 1, 0}, {MOST, 1, 0}, {8, MOST, 0}};
        for (int[] w : wrong) {
            Checks.illegal("block(" + w[0] + ", " + w[1] + ", " + w[2] + ")", () -> x.block(w[0], w[1], w[2]));
        }
        Scenes.dueStand("blocks refused", x, 5, 0);
        Checks.untimely("phase 5: roll(6)", () -> x.roll(6));
        Checks.untimely("phase 5: pass()", () -> x.pass());
        x.block(8, 1, 0);
        Checks.untimely("phase 6: block(0, -1, 0)", () -> x.block(0, -1, 0));
        Checks.untimely("phase 6: block(99, -1, 0)", () -> x.block(99, -1, 0));
    }

    private static void blockOfNobody() {
        HexIsland x = sevenRolled();
        Checks.due("own hut alone: block(0, -1, 3)", x.block(0, -1, 3), -1);
        Scenes.dueStand("block(0, -1, 3)", x, 6, 0);
        x.pass();
        x.roll(2);
        x.offer(0, Scenes.bundle(1, 1, 1, 2, 2), 0);
        x.accept();
        x.pass();
        x.roll(7);
        for (int good = 0; x.phase() == 4; good = (good + 1) % 5) {
            x.give(0, good);
        }
        Checks.illegal("a victim without goods: block(8, 1, 0)", () -> x.block(8, 1, 0));
        Checks.illegal("blocked now: block(0, -1, 0)", () -> x.block(0, -1, 0));
        Checks.due("nobody has goods: block(8, -1, 0)", x.block(8, -1, 0), -1);
        HexIsland y = Scenes.turns(Scenes.farmsOfTwo(), 8, 8, 8);
        y.roll(2);
        y.place(Scenes.TOWN, 34);
        y.pass();
        y.roll(7);
        while (y.phase() == 4) {
            y.give(1, WOOD + (y.goods(1, WOOD) > 0 ? 0 : 1));
        }
        Checks.illegal("a town: block(12, -1, 0)", () -> y.block(12, -1, 0));
        Checks.due("a town: block(12, 1, 0)", y.block(12, 1, 0), WOOL);
    }

    private static void blockOfPlayerZero() {
        HexIsland x = Scenes.farmsOfTwo();
        x.roll(2);
        x.offer(1, Scenes.bundle(0, 0, 0, 1, 0), 0);
        x.accept();
        x.pass();
        x.roll(7);
        Checks.illegal("a victim with one good: block(0, -1, 0)", () -> x.block(0, -1, 0));
        Checks.illegal("the player itself: block(8, 1, 0)", () -> x.block(8, 1, 0));
        Checks.due("a victim with one good: block(0, 0, 6)", x.block(0, 0, 6), ORE);
        Scenes.dueHand("a victim with one good", x, 0, 0, 0, 0, 0, 0);
        Scenes.dueHand("a victim with one good", x, 1, 0, 0, 0, 2, 2);
    }

    private static void blockedHexBringsNone() {
        HexIsland x = sevenRolled();
        x.block(8, 1, 0);
        x.pass();
        Checks.due("hex 8 blocked: roll(8)", x.roll(8), 4);
        Scenes.dueHand("hex 8 blocked", x, 1, 0, 2, 2, 3, 3);
        Checks.due("hex 8 blocked: forecast", x.forecast(1, WOOD, 1), 0);
        x.pass();
        x.roll(7);
        while (x.phase() == 4) {
            x.give(1, x.goods(1, CORN) > 0 ? CORN : ORE);
        }
        x.block(1, -1, 0);
        Checks.due("hex 1 blocked: forecast", x.forecast(1, WOOD, 1), 5);
        x.pass();
        Checks.due("hex 1 blocked: roll(8)", x.roll(8), 5);
    }

    /** Player 0 is at a port for all and at one for wood, and gets two wood and a clay of a 6; player 1 is at none. */
    private static HexIsland ports() {
        HexIsland x = Scenes.island(0, WOOD, 6, 3, CLAY, 6, 18, WOOL, 8, 16, CORN, 8);
        x.port(0, 5);
        x.port(10, WOOD);
        x.port(5, WOOL);
        x.players(2, 12);
        return Scenes.settle(x, 0, 0, 53, 71, 51, 66, 7, 11);
    }

    private static void bankPrices() {
        HexIsland x = ports();
        x.roll(6);
        Scenes.dueHand("ports", x, 0, 3, 2, 0, 0, 0);
        Checks.untimely("two clay: bank(1, 4)", () -> x.bank(CLAY, ORE));
        Checks.due("three wood: bank(0, 4)", x.bank(WOOD, ORE), 2);
        Checks.untimely("one wood: bank(0, 4)", () -> x.bank(WOOD, ORE));
        Scenes.dueHand("ports", x, 0, 1, 2, 0, 0, 1);
        Scenes.dueHand("ports", x, -1, 18, 17, 19, 18, 18);
        x.pass();
        Scenes.turns(x, 6);
        x.roll(8);
        Checks.due("three clay: bank(1, 0)", x.bank(CLAY, WOOD), 3);
        Scenes.dueHand("ports", x, 0, 4, 0, 0, 0, 1);
        x.pass();
        Scenes.turns(x, 8, 8);
        x.roll(2);
        Scenes.dueHand("no port", x, 1, 0, 0, 3, 4, 0);
        Checks.untimely("no port, three wool: bank(2, 4)", () -> x.bank(WOOL, ORE));
        Checks.due("no port, four corn: bank(3, 4)", x.bank(CORN, ORE), 4);
        Scenes.dueHand("no port", x, 1, 0, 0, 3, 0, 1);
    }

    private static void bankPortsAtBothCorners() {
        HexIsland x = Scenes.island(0, WOOD, 6, 3, CLAY, 6);
        x.port(0, 5);
        x.port(10, CLAY);
        x.players(2, 12);
        Scenes.settle(x, 3, 6, 11, 18, 53, 71, 8, 12);
        Scenes.sixes(x, 4);
        x.roll(2);
        Checks.due("greater corner of a port for all: bank(0, 1)", x.bank(WOOD, CLAY), 3);
        x.pass();
        x.roll(2);
        Checks.due("greater corner of a port for clay: bank(1, 0)", x.bank(CLAY, WOOD), 2);
        HexIsland y = Scenes.sixes(ports(), 4);
        y.roll(6);
        y.bank(WOOD, ORE);
        y.bank(WOOD, ORE);
        y.bank(WOOD, ORE);
        y.bank(WOOD, CORN);
        y.bank(CLAY, CORN);
        y.place(Scenes.TOWN, 7);
        Checks.due("a town at a port: bank(1, 4)", y.bank(CLAY, ORE), 3);
        Checks.due("a town at a port: bank(0, 4)", y.bank(WOOD, ORE), 2);
    }

    private static void bankRefuses() {
        HexIsland x = Scenes.sixes(Scenes.farmsOfTwo(), 4);
        int[][] wrong = {{-1, 0}, {5, 0}, {0, -1}, {0, 5}, {0, 0}, {4, 4}, {LEAST, 0}, {0, MOST}};
        for (int[] w : wrong) {
            Checks.illegal("phase 3: bank(" + w[0] + ", " + w[1] + ")", () -> x.bank(w[0], w[1]));
        }
        Checks.untimely("phase 3: bank(0, 1)", () -> x.bank(0, 1));
        x.roll(2);
        for (int[] w : wrong) {
            Checks.illegal("phase 6: bank(" + w[0] + ", " + w[1] + ")", () -> x.bank(w[0], w[1]));
        }
        Checks.due("four wood: bank(0, 1)", x.bank(0, 1), 4);
        Checks.untimely("no wood: bank(0, 1)", () -> x.bank(0, 1));
    }

    private static void bankLacks() {
        HexIsland x = Scenes.sixes(Scenes.farmsOfTwo(), 18);
        Scenes.turns(x, 8);
        Scenes.dueHand("the bank is empty", x, -1, 0, 0, 0, 0, 0);
        x.roll(2);
        x.pass();
        x.roll(2);
        Checks.untimely("none of the good: bank(0, 1)", () -> x.bank(WOOD, CLAY));
        x.offer(1, Scenes.bundle(0, 1, 0, 0, 0), Scenes.bundle(1, 0, 0, 0, 0));
        x.accept();
        x.place(Scenes.ROAD, 11);
        Checks.due("one of the good: bank(0, 1)", x.bank(WOOD, CLAY), 4);
        Checks.untimely("none of it any more: bank(0, 1)", () -> x.bank(WOOD, CLAY));
    }

    private static void offerRefuses() {
        HexIsland x = Scenes.farmsOfTwo();
        int wood = Scenes.bundle(1, 0, 0, 0, 0);
        int ore = Scenes.bundle(0, 0, 0, 0, 1);
        int[][] wrong = {{0, ore, wood}, {2, ore, wood}, {-1, ore, wood}, {1, 0, 0}, {1, -1, wood}, {1, ore, -1},
            {1, 1 << 20, wood}, {1, ore, 1 << 20}, {1, LEAST, 0}, {1, MOST, 0}, {1, 0, LEAST}, {1, 0, MOST}};
        for (int[] w : wrong) {
            Checks.illegal("phase 3: offer(" + w[0] + ", " + w[1] + ", " + w[2] + ")", () -> x.offer(w[0], w[1], w[2]));
        }
        Checks.untimely("phase 3: offer(1, ore, wood)", () -> x.offer(1, ore, wood));
        x.roll(2);
        for (int[] w : wrong) {
            Checks.illegal("phase 6: offer(" + w[0] + ", " + w[1] + ", " + w[2] + ")", () -> x.offer(w[0], w[1], w[2]));
        }
        Checks.untimely("no wood: offer(1, wood, ore)", () -> x.offer(1, wood, ore));
        Checks.untimely("two ore: offer(1, 2 ore, wood)", () -> x.offer(1, 2 * ore, wood));
        Checks.untimely("most: offer(1, most, 0)", () -> x.offer(1, (1 << 20) - 1, 0));
        Checks.untimely("no offer: accept()", () -> x.accept());
        x.offer(1, 0, (1 << 20) - 1);
        Checks.untimely("too much asked for: accept()", () -> x.accept());
        x.offer(1, ore, 0);
        Checks.due("a gift: accept()", x.accept(), 1);
        x.undo();
        x.offer(1, Scenes.bundle(0, 0, 0, 1, 0), 0);
        Checks.due("another gift: accept()", x.accept(), 1);
        x.offer(1, ore, 0);
        x.accept();
        x.offer(1, 0, ore);
        Checks.due("a gift back: accept()", x.accept(), 1);
    }

    private static void offerIsTaken() {
        HexIsland x = Scenes.turns(Scenes.farmsOfTwo(), 6, 8, 6, 8);
        x.roll(2);
        x.offer(1, Scenes.bundle(2, 1, 0, 0, 1), Scenes.bundle(1, 0, 2, 3, 0));
        Scenes.dueHand("offered", x, 0, 2, 2, 2, 3, 3);
        Checks.due("accept()", x.accept(), 10);
        Scenes.dueHand("taken", x, 0, 1, 1, 4, 6, 2);
        Scenes.dueHand("taken", x, 1, 3, 3, 0, 0, 4);
        Scenes.dueHand("taken", x, -1, 15, 15, 15, 13, 13);
        Scenes.dueStand("taken", x, 6, 0);
        x.offer(1, Scenes.bundle(0, 0, 1, 0, 0), 0);
        x.accept();
        Checks.untimely("gone, though there is more: accept()", () -> x.accept());
        HexIsland y = Scenes.turns(Scenes.farmsOfThree(), 8, 9, 9);
        y.roll(2);
        y.pass();
        y.roll(2);
        y.offer(2, Scenes.bundle(0, 0, 1, 0, 0), Scenes.bundle(1, 1, 0, 0, 0));
        Checks.due("player 1 to player 2: accept()", y.accept(), 3);
        Scenes.dueHand("player 1 to player 2", y, 1, 2, 2, 0, 2, 2);
        Scenes.dueHand("player 1 to player 2", y, 2, 1, 1, 1, 0, 0);
    }

    private static void offerIsReplacedAndGone() {
        int corn = Scenes.bundle(0, 0, 0, 1, 0);
        int ore = Scenes.bundle(0, 0, 0, 0, 1);
        HexIsland x = Scenes.farmsOfTwo();
        x.roll(2);
        x.offer(1, corn, ore);
        x.offer(1, ore, corn);
        Checks.due("the later offer: accept()", x.accept(), 2);
        Scenes.dueHand("the later offer", x, 0, 0, 0, 0, 2, 0);
        x.offer(1, corn, ore);
        x.pass();
        Checks.untimely("phase 3: accept()", () -> x.accept());
        x.roll(2);
        Checks.untimely("the next turn: accept()", () -> x.accept());
        x.pass();
        x.roll(2);
        Checks.untimely("the turn behind that: accept()", () -> x.accept());
        x.offer(1, corn, ore);
        Checks.illegal("a wrong offer", () -> x.offer(0, corn, ore));
        Checks.due("the offer stays: accept()", x.accept(), 2);
    }

    private static void acceptRefuses() {
        HexIsland x = Scenes.turns(Scenes.farmsOfTwo(), 6, 6);
        x.roll(2);
        x.offer(1, Scenes.bundle(0, 0, 0, 2, 2), Scenes.bundle(0, 0, 0, 1, 1));
        x.place(Scenes.TOWN, 12);
        Checks.untimely("the giver has not: accept()", () -> x.accept());
        x.undo();
        Checks.due("the giver has again: accept()", x.accept(), 6);
        x.offer(1, Scenes.bundle(1, 0, 0, 0, 0), Scenes.bundle(0, 0, 0, 0, 3));
        Checks.untimely("the taker has not: accept()", () -> x.accept());
        x.offer(1, Scenes.bundle(1, 0, 0, 0, 0), Scenes.bundle(0, 0, 0, 0, 2));
        Checks.due("the taker has: accept()", x.accept(), 3);
    }

    private static void goodsTells() {
        HexIsland x = Scenes.farmsOfTwo();
        Checks.due("goods(-1, 0)", x.goods(-1, 0), 19);
        Checks.due("goods(-1, 4)", x.goods(-1, 4), 17);
        Checks.due("goods(1, 4)", x.goods(1, 4), 1);
        int[][] none = {{-2, 0}, {2, 0}, {4, 0}, {0, -1}, {0, 5}, {-1, -1}, {-1, 5}, {LEAST, 0}, {0, MOST}};
        for (int[] w : none) {
            Checks.outside("goods(" + w[0] + ", " + w[1] + ")", () -> x.goods(w[0], w[1]));
        }
    }

    private static void forecastTells() {
        HexIsland x = Scenes.farmsOfTwo();
        Checks.due("forecast(0, 0, 1)", x.forecast(0, 0, 1), 5);
        Checks.due("forecast(0, 0, 2)", x.forecast(0, 0, 2), 360);
        Checks.due("forecast(0, 0, 3)", x.forecast(0, 0, 3), 19440);
        Checks.due("forecast(1, 4, 3)", x.forecast(1, 4, 3), 19440);
        Scenes.turns(x, 6, 6);
        x.roll(2);
        x.place(Scenes.TOWN, 12);
        Checks.due("a town: forecast(0, 0, 1)", x.forecast(0, 0, 1), 10);
        Checks.due("a town: forecast(0, 0, 2)", x.forecast(0, 0, 2), 720);
        Checks.due("a town: forecast(0, 4, 1)", x.forecast(0, 4, 1), 5);
        HexIsland y = Scenes.island(0, WOOD, 2, 3, WOOD, 10, 4, WOOD, 12, 8, WOOD, 6);
        y.players(2, 3);
        Scenes.settle(y, 12, 19, 23, 35);
        Checks.due("three hexes: forecast(0, 0, 1)", y.forecast(0, 0, 1), 5);
        Checks.due("two hexes: forecast(1, 0, 1)", y.forecast(1, 0, 1), 6);
        Scenes.settle(y, 30, 44, 22, 34);
        Checks.due("five hexes: forecast(0, 0, 3)", y.forecast(0, 0, 3), 3 * 13 * 1296);
    }

    private static void forecastRefuses() {
        HexIsland x = Scenes.farmsOfTwo();
        int[][] none = {{-1, 0, 1}, {2, 0, 1}, {0, -1, 1}, {0, 5, 1}, {-1, 0, 0}, {0, 5, 4}};
        for (int[] w : none) {
            Checks.outside("forecast(" + w[0] + ", " + w[1] + ", " + w[2] + ")", () -> x.forecast(w[0], w[1], w[2]));
        }
        for (int rolls : new int[] {0, 4, -1, LEAST, MOST}) {
            Checks.illegal("forecast(0, 0, " + rolls + ")", () -> x.forecast(0, 0, rolls));
        }
    }
}
