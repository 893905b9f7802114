/** Promises 10 to 12: bank, offer and accept; what they refuse by phase is in RefusalTest. */
public final class TradeTest {
    private static final int WOOD = Scenes.WOOD;
    private static final int CLAY = Scenes.CLAY;
    private static final int WOOL = Scenes.WOOL;
    private static final int CORN = Scenes.CORN;
    private static final int ORE = Scenes.ORE;
    private static final int MOST = Integer.MAX_VALUE;
    private static final int LEAST = Integer.MIN_VALUE;
    private static final int NO_PORT = -1;

    public static void main(String[] args) {
        pricesOfEachPort();
        portsAtTheirCornersAlone();
        portsOfOthers();
        portsOfTwoKinds();
        portsOfTowns();
        bankMovesGoods();
        bankRefuses();
        bankLacks();
        offerRefuses();
        offerToEachOther();
        offerOfEachGood();
        offerOfTwentyBits();
        offerOfNothing();
        offerOfWhatThereIs();
        offerIsTaken();
        offerIsReplaced();
        offerIsGoneAtTheEnd();
        acceptRefuses();
        Checks.end();
    }

    /** Player 0 has a hut on the corner, which is beside hex 0, the only one that bears a good; the port is on edge 0. */
    private static HexIsland atAPort(int corner, int road, int kind, int good, int goods) {
        HexIsland x = Scenes.island(0, good, 6);
        if (kind != NO_PORT) {
            x.port(0, kind);
        }
        x.players(2, 12);
        Scenes.settle(x, corner, road, 53, 71, 30, 36, 51, 66);
        Scenes.sixes(x, goods);
        if (x.turn() == 1) {
            Scenes.turns(x, 2);
        }
        x.roll(2);
        Checks.due("at a port: goods(0, " + good + ")", x.goods(0, good), goods);
        return x;
    }

    private static void duePrice(String when, int corner, int road, int kind, int good, int price) {
        HexIsland x = atAPort(corner, road, kind, good, price);
        HexIsland y = atAPort(corner, road, kind, good, price - 1);
        int gets = (good + 1) % 5;
        String call = when + ": bank(" + good + ", " + gets + ")";
        Checks.due(call, x.bank(good, gets), price);
        Checks.due(call + ", all given", x.goods(0, good), 0);
        Checks.due(call + ", one got", x.goods(0, gets), 1);
        Checks.untimely(call + " with one less", () -> y.bank(good, gets));
    }

    private static void pricesOfEachPort() {
        for (int good = 0; good < 5; good++) {
            Checks.sentence("bank: how many, which is 4");
            duePrice("no port", 0, 0, NO_PORT, good, 4);
            for (int kind = 0; kind < 5; kind++) {
                if (kind != good) {
                    duePrice("a port for " + kind, 0, 0, kind, good, 4);
                }
            }
            Checks.sentence("bank: or 3 with a hut or town at a corner of a port's edge of kind 5");
            duePrice("a port for all", 0, 0, 5, good, 3);
            Checks.sentence("bank: or 2 of that good's");
            duePrice("a port for the good", 0, 0, good, good, 2);
        }
    }

    private static void portsAtTheirCornersAlone() {
        Checks.sentence("bank: with a hut or town at a corner of a port's edge");
        duePrice("the less corner, a port for all", 0, 1, 5, WOOD, 3);
        duePrice("the greater corner, a port for all", 3, 6, 5, WOOD, 3);
        duePrice("the less corner, a port for the good", 0, 1, WOOD, WOOD, 2);
        duePrice("the greater corner, a port for the good", 3, 6, WOOD, WOOD, 2);
        duePrice("a corner next to a port, its road to it", 7, 6, 5, WOOD, 4);
        duePrice("a corner next to a port, its road to it", 4, 1, WOOD, WOOD, 4);
    }

    private static void portsOfOthers() {
        Checks.sentence("bank: with a hut or town at a corner of a port's edge, the player's own");
        HexIsland x = Scenes.island(0, WOOD, 6);
        x.port(0, WOOD);
        x.port(22, 5);
        x.players(2, 12);
        Scenes.settle(x, 7, 10, 0, 0, 20, 31, 51, 66);
        Scenes.sixes(x, 4);
        x.roll(2);
        Checks.due("four wood, both ports another's: bank(0, 1)", x.bank(WOOD, CLAY), 4);
        x.pass();
        x.roll(2);
        Checks.due("that other one: bank(0, 1)", x.bank(WOOD, CLAY), 2);
    }

    /** Player 0 is at a port for all and at one for wood, and gets two wood and a clay of a 6; player 1 is at none. */
    private static HexIsland ports() {
        HexIsland x = Scenes.island(0, WOOD, 6, 3, CLAY, 6, 18, WOOL, 8, 16, CORN, 8);
        x.port(0, 5);
        x.port(10, WOOD);
        x.port(5, WOOL);
        x.players(2, 12);
        return Scenes.settle(x, 0, 0, 53, 71, 51, 66, 7, 11);
    }

    private static void portsOfTwoKinds() {
        Checks.sentence("bank: which is 4, or 3 with a hut or town at a corner of a port's edge of kind 5, or 2 of that"
            + " good's");
        HexIsland x = ports();
        x.roll(6);
        Scenes.dueHand("ports", x, 0, 3, 2, 0, 0, 0);
        Checks.untimely("two clay: bank(1, 4)", () -> x.bank(CLAY, ORE));
        Checks.due("three wood: bank(0, 4)", x.bank(WOOD, ORE), 2);
        Checks.untimely("one wood: bank(0, 4)", () -> x.bank(WOOD, ORE));
        Scenes.dueHand("ports", x, 0, 1, 2, 0, 0, 1);
        Scenes.dueHand("ports", x, -1, 18, 17, 19, 18, 18);
        x.pass();
        Scenes.turns(x, 6);
        x.roll(8);
        Checks.due("three clay: bank(1, 0)", x.bank(CLAY, WOOD), 3);
        Scenes.dueHand("ports", x, 0, 4, 0, 0, 0, 1);
        x.pass();
        Scenes.turns(x, 8, 8);
        x.roll(2);
        Scenes.dueHand("no port", x, 1, 0, 0, 3, 4, 0);
        Checks.untimely("no port, three wool: bank(2, 4)", () -> x.bank(WOOL, ORE));
        Checks.due("no port, four corn: bank(3, 4)", x.bank(CORN, ORE), 4);
        Scenes.dueHand("no port", x, 1, 0, 0, 3, 0, 1);
    }

    private static void portsOfTowns() {
        Checks.sentence("bank: with a hut or town at a corner of a port's edge");
        HexIsland x = Scenes.sixes(ports(), 4);
        x.roll(6);
        x.bank(WOOD, ORE);
        x.bank(WOOD, ORE);
        x.bank(WOOD, ORE);
        x.bank(WOOD, CORN);
        x.bank(CLAY, CORN);
        x.place(Scenes.TOWN, 7);
        Checks.due("a town at a port: bank(1, 4)", x.bank(CLAY, ORE), 3);
        Checks.due("a town at a port: bank(0, 4)", x.bank(WOOD, ORE), 2);
    }

    private static void bankMovesGoods() {
        Checks.sentence("The player gives goods to the bank for one other");
        HexIsland x = Scenes.rolled(Scenes.sixes(Scenes.farmsOfTwo(), 4), 6);
        Scenes.dueHand("before bank(0, 4)", x, 0, 5, 5, 5, 6, 6);
        Checks.due("bank(0, 4)", x.bank(WOOD, ORE), 4);
        Scenes.dueHand("bank(0, 4)", x, 0, 1, 5, 5, 6, 7);
        Scenes.dueHand("bank(0, 4)", x, -1, 18, 14, 14, 12, 11);
        Scenes.dueHand("bank(0, 4)", x, 1, 0, 0, 0, 1, 1);
        Scenes.dueStand("bank(0, 4)", x, 6, 0);
        Checks.due("bank(4, 0)", x.bank(ORE, WOOD), 4);
        Scenes.dueHand("bank(4, 0)", x, 0, 2, 5, 5, 6, 3);
    }

    private static void bankRefuses() {
        Checks.sentence("bank: IllegalArgumentException when there is no such good, or both are the same");
        HexIsland x = Scenes.sixes(Scenes.farmsOfTwo(), 4);
        int[][] wrong = {{-1, 0}, {5, 0}, {0, -1}, {0, 5}, {0, 0}, {4, 4}, {LEAST, 0}, {0, MOST}};
        for (int[] w : wrong) {
            Checks.illegal("phase 3: bank(" + w[0] + ", " + w[1] + ")", () -> x.bank(w[0], w[1]));
        }
        Checks.untimely("phase 3: bank(0, 1)", () -> x.bank(0, 1));
        x.roll(2);
        for (int[] w : wrong) {
            Checks.illegal("phase 6: bank(" + w[0] + ", " + w[1] + ")", () -> x.bank(w[0], w[1]));
        }
        Checks.due("four wood: bank(0, 1)", x.bank(0, 1), 4);
        Checks.untimely("no wood: bank(0, 1)", () -> x.bank(0, 1));
    }

    private static void bankLacks() {
        Checks.sentence("bank: IllegalStateException when player or bank has not so many");
        HexIsland x = Scenes.sixes(Scenes.farmsOfTwo(), 18);
        Scenes.turns(x, 8);
        Scenes.dueHand("the bank is empty", x, -1, 0, 0, 0, 0, 0);
        x.roll(2);
        x.pass();
        x.roll(2);
        Checks.untimely("none of the good: bank(0, 1)", () -> x.bank(WOOD, CLAY));
        x.offer(1, Scenes.bundle(0, 1, 0, 0, 0), Scenes.bundle(1, 0, 0, 0, 0));
        x.accept();
        x.place(Scenes.ROAD, 11);
        Checks.due("one of the good: bank(0, 1)", x.bank(WOOD, CLAY), 4);
        Checks.untimely("none of it any more: bank(0, 1)", () -> x.bank(WOOD, CLAY));
    }

    private static void offerRefuses() {
        Checks.sentence("offer: IllegalArgumentException when there is no such player, it is the one on turn, or a"
            + " number has more than 20 bits (is below 0, too), or both are 0");
        HexIsland x = Scenes.farmsOfTwo();
        int wood = Scenes.bundle(1, 0, 0, 0, 0);
        int ore = Scenes.bundle(0, 0, 0, 0, 1);
        int[][] wrong = {{0, ore, wood}, {2, ore, wood}, {-1, ore, wood}, {1, 0, 0}, {1, -1, wood}, {1, ore, -1},
            {1, 1 << 20, wood}, {1, ore, 1 << 20}, {1, LEAST, 0}, {1, MOST, 0}, {1, 0, LEAST}, {1, 0, MOST}};
        for (int[] w : wrong) {
            Checks.illegal("phase 3: offer(" + w[0] + ", " + w[1] + ", " + w[2] + ")", () -> x.offer(w[0], w[1], w[2]));
        }
        Checks.untimely("phase 3: offer(1, ore, wood)", () -> x.offer(1, ore, wood));
        x.roll(2);
        for (int[] w : wrong) {
            Checks.illegal("phase 6: offer(" + w[0] + ", " + w[1] + ", " + w[2] + ")", () -> x.offer(w[0], w[1], w[2]));
        }
        Checks.untimely("no wood: offer(1, wood, ore)", () -> x.offer(1, wood, ore));
        Checks.untimely("two ore: offer(1, 2 ore, wood)", () -> x.offer(1, 2 * ore, wood));
        Checks.untimely("most: offer(1, most, 0)", () -> x.offer(1, (1 << 20) - 1, 0));
        Checks.untimely("no offer: accept()", () -> x.accept());
        x.offer(1, 0, (1 << 20) - 1);
        Checks.untimely("too much asked for: accept()", () -> x.accept());
        x.offer(1, ore, 0);
        Checks.due("a gift: accept()", x.accept(), 1);
        x.undo();
        x.offer(1, Scenes.bundle(0, 0, 0, 1, 0), 0);
        Checks.due("another gift: accept()", x.accept(), 1);
        x.offer(1, ore, 0);
        x.accept();
        x.offer(1, 0, ore);
        Checks.due("a gift back: accept()", x.accept(), 1);
    }

    private static void offerToEachOther() {
        Checks.sentence("offer: IllegalArgumentException when there is no such player, it is the one on turn");
        HexIsland x = Scenes.farmsOfThree();
        x.roll(2);
        x.pass();
        x.roll(2);
        int corn = Scenes.bundle(0, 0, 0, 1, 0);
        Checks.illegal("player 1: offer(-1, corn, 0)", () -> x.offer(-1, corn, 0));
        Checks.illegal("player 1: offer(1, corn, 0)", () -> x.offer(1, corn, 0));
        Checks.illegal("player 1: offer(3, corn, 0)", () -> x.offer(3, corn, 0));
        Checks.untimely("no offer yet: accept()", () -> x.accept());
        Checks.sentence("The offer is taken by whom it was made to");
        x.offer(2, corn, 0);
        Checks.due("to player 2: accept()", x.accept(), 1);
        Scenes.dueHand("to player 2", x, 2, 0, 0, 0, 1, 0);
        Scenes.dueHand("to player 2", x, 0, 0, 0, 0, 1, 1);
        x.undo();
        x.offer(0, corn, 0);
        Checks.due("to player 0: accept()", x.accept(), 1);
        Scenes.dueHand("to player 0", x, 2, 0, 0, 0, 0, 0);
        Scenes.dueHand("to player 0", x, 0, 0, 0, 0, 2, 1);
    }

    private static void offerOfEachGood() {
        Checks.sentence("offer: for each good four bits say how many, wood lowest");
        for (int good = 0; good < 5; good++) {
            HexIsland x = Scenes.turns(Scenes.farmsOfTwo(), 6, 8, 6, 8);
            x.roll(2);
            int[] mine = {2, 2, 2, 3, 3};
            int[] theirs = {2, 2, 2, 3, 3};
            int back = (good + 2) % 5;
            x.offer(1, 2 << 4 * good, 1 << 4 * back);
            Checks.due("two of good " + good + " for one of good " + back + ": accept()", x.accept(), 3);
            mine[good] -= 2;
            theirs[good] += 2;
            mine[back]++;
            theirs[back]--;
            Scenes.dueHand("two of good " + good + " for one of good " + back, x, 0, mine);
            Scenes.dueHand("two of good " + good + " for one of good " + back, x, 1, theirs);
        }
    }

    private static void offerOfTwentyBits() {
        Checks.sentence("offer: IllegalArgumentException when a number has more than 20 bits (is below 0, too)");
        int all = (1 << 20) - 1;
        HexIsland x = Scenes.sixes(Scenes.farmsOfTwo(), 16);
        x.roll(2);
        Scenes.dueHand("before all bits", x, 0, 16, 16, 16, 17, 17);
        Checks.illegal("offer(1, 1 << 20, 0)", () -> x.offer(1, 1 << 20, 0));
        Checks.illegal("offer(1, 0, 1 << 20)", () -> x.offer(1, 0, 1 << 20));
        Checks.illegal("offer(1, -1, 0)", () -> x.offer(1, -1, 0));
        Checks.illegal("offer(1, 0, -1)", () -> x.offer(1, 0, -1));
        Checks.untimely("nothing was offered: accept()", () -> x.accept());
        x.offer(1, all, 0);
        Checks.due("all bits: accept()", x.accept(), 75);
        Scenes.dueHand("all bits", x, 0, 1, 1, 1, 2, 2);
        Scenes.dueHand("all bits", x, 1, 15, 15, 15, 16, 16);
        x.offer(1, 0, all);
        Checks.due("all bits back: accept()", x.accept(), 75);
        Scenes.dueHand("all bits back", x, 0, 16, 16, 16, 17, 17);
    }

    private static void offerOfNothing() {
        Checks.sentence("offer: IllegalArgumentException when both are 0");
        HexIsland x = Scenes.farmsOfTwo();
        x.roll(2);
        int ore = Scenes.bundle(0, 0, 0, 0, 1);
        Checks.illegal("offer(1, 0, 0)", () -> x.offer(1, 0, 0));
        x.offer(1, ore, 0);
        Checks.due("for nothing: accept()", x.accept(), 1);
        Scenes.dueHand("for nothing", x, 0, 0, 0, 0, 1, 0);
        x.offer(1, 0, ore);
        Checks.due("nothing given: accept()", x.accept(), 1);
        Scenes.dueHand("nothing given", x, 0, 0, 0, 0, 1, 1);
    }

    private static void offerOfWhatThereIs() {
        Checks.sentence("offer: IllegalStateException when the player has not what is given");
        for (int good = 0; good < 5; good++) {
            HexIsland x = Scenes.turns(Scenes.farmsOfTwo(), 6, 6);
            x.roll(2);
            int have = x.goods(0, good);
            int place = 4 * good;
            Checks.untimely("one more of good " + good + " than there is", () -> x.offer(1, have + 1 << place, 0));
            Checks.untimely("nothing was offered: accept()", () -> x.accept());
            x.offer(1, have << place, 0);
            Checks.due("all of good " + good + ": accept()", x.accept(), have);
            Checks.due("all of good " + good, x.goods(0, good), 0);
        }
        HexIsland y = Scenes.farmsOfTwo();
        y.roll(2);
        y.offer(1, 0, Scenes.bundle(15, 15, 15, 15, 15));
        Scenes.dueStand("an offer for what the other one has not", y, 6, 0);
        Checks.untimely("it can't be taken: accept()", () -> y.accept());
    }

    private static void offerIsTaken() {
        Checks.sentence("accept: how many goods went either way. It is gone then");
        HexIsland x = Scenes.turns(Scenes.farmsOfTwo(), 6, 8, 6, 8);
        x.roll(2);
        x.offer(1, Scenes.bundle(2, 1, 0, 0, 1), Scenes.bundle(1, 0, 2, 3, 0));
        Scenes.dueHand("offered", x, 0, 2, 2, 2, 3, 3);
        Checks.due("accept()", x.accept(), 10);
        Scenes.dueHand("taken", x, 0, 1, 1, 4, 6, 2);
        Scenes.dueHand("taken", x, 1, 3, 3, 0, 0, 4);
        Scenes.dueHand("taken", x, -1, 15, 15, 15, 13, 13);
        Scenes.dueStand("taken", x, 6, 0);
        x.offer(1, Scenes.bundle(0, 0, 1, 0, 0), 0);
        x.accept();
        Checks.untimely("gone, though there is more: accept()", () -> x.accept());
        HexIsland y = Scenes.turns(Scenes.farmsOfThree(), 8, 9, 9);
        y.roll(2);
        y.pass();
        y.roll(2);
        y.offer(2, Scenes.bundle(0, 0, 1, 0, 0), Scenes.bundle(1, 1, 0, 0, 0));
        Checks.due("player 1 to player 2: accept()", y.accept(), 3);
        Scenes.dueHand("player 1 to player 2", y, 1, 2, 2, 0, 2, 2);
        Scenes.dueHand("player 1 to player 2", y, 2, 1, 1, 1, 0, 0);
    }

    private static void offerIsReplaced() {
        Checks.sentence("The player offers goods to another player for goods, in place of an offer before");
        int corn = Scenes.bundle(0, 0, 0, 1, 0);
        int ore = Scenes.bundle(0, 0, 0, 0, 1);
        HexIsland x = Scenes.farmsOfTwo();
        x.roll(2);
        x.offer(1, corn, ore);
        x.offer(1, ore, corn);
        Checks.due("the later offer: accept()", x.accept(), 2);
        Scenes.dueHand("the later offer", x, 0, 0, 0, 0, 2, 0);
        Checks.untimely("the offer before: accept()", () -> x.accept());
        x.offer(1, corn, ore);
        Checks.illegal("a wrong offer", () -> x.offer(0, corn, ore));
        Checks.untimely("an offer of what is not there", () -> x.offer(1, ore, corn));
        Checks.due("the offer stays: accept()", x.accept(), 2);
    }

    private static void offerIsGoneAtTheEnd() {
        Checks.sentence("It is gone then, and at the turn's end");
        int corn = Scenes.bundle(0, 0, 0, 1, 0);
        int ore = Scenes.bundle(0, 0, 0, 0, 1);
        HexIsland x = Scenes.farmsOfTwo();
        x.roll(2);
        x.offer(1, corn, ore);
        x.pass();
        Checks.untimely("phase 3: accept()", () -> x.accept());
        x.roll(2);
        Checks.untimely("the next turn: accept()", () -> x.accept());
        x.pass();
        x.roll(2);
        Checks.untimely("the turn behind that: accept()", () -> x.accept());
    }

    private static void acceptRefuses() {
        Checks.sentence("accept: IllegalStateException when one of both has not what is to be given");
        HexIsland x = Scenes.turns(Scenes.farmsOfTwo(), 6, 6);
        x.roll(2);
        x.offer(1, Scenes.bundle(0, 0, 0, 2, 2), Scenes.bundle(0, 0, 0, 1, 1));
        x.place(Scenes.TOWN, 12);
        Checks.untimely("the giver has not: accept()", () -> x.accept());
        x.undo();
        Checks.due("the giver has again: accept()", x.accept(), 6);
        x.offer(1, Scenes.bundle(1, 0, 0, 0, 0), Scenes.bundle(0, 0, 0, 0, 3));
        Checks.untimely("the taker has not: accept()", () -> x.accept());
        x.offer(1, Scenes.bundle(1, 0, 0, 0, 0), Scenes.bundle(0, 0, 0, 0, 2));
        Checks.due("the taker has: accept()", x.accept(), 3);
        HexIsland y = Scenes.turns(Scenes.farmsOfTwo(), 8, 8);
        y.roll(2);
        y.offer(1, 0, Scenes.bundle(3, 0, 0, 0, 0));
        Checks.untimely("the taker has two: accept()", () -> y.accept());
        Scenes.dueHand("the taker has two", y, 1, 2, 2, 2, 3, 3);
    }
}
