/** Promises 13, 14 and 21: buy, play and cards. */
public final class CardsTest {
    private static final int ROAD = Scenes.ROAD;
    private static final int HUT = Scenes.HUT;
    private static final int BLOCKER = 0;
    private static final int ROADS = 1;
    private static final int GOODS = 2;
    private static final int MONOPOLY = 3;

    public static void main(String[] args) {
        buyPays();
        buyRefuses();
        cardsTells();
        playRefusesFirst();
        playNeedsAnOldCard();
        playOneATurn();
        blockerBlocks();
        roadsAreFree();
        roadsEndByPass();
        roadsEndWithTheLastPiece();
        roadsEndWhenEnclosed();
        goodsOutOfTheBank();
        monopolyTakesAll();
        Checks.end();
    }

    private static void buyPays() {
        HexIsland x = Scenes.farmsOfTwo(12, 012);
        x.roll(6);
        Checks.due("buy()", x.buy(), 15);
        Scenes.dueHand("bought", x, 0, 1, 1, 0, 1, 1);
        Scenes.dueHand("bought", x, -1, 18, 18, 19, 17, 17);
        Checks.due("the first card: cards(0, 2)", x.cards(0, GOODS), 1);
        x.pass();
        x.roll(8);
        Checks.due("buy()", x.buy(), 14);
        Checks.due("the second card: cards(1, 1)", x.cards(1, ROADS), 1);
        Checks.due("the second card: cards(0, 1)", x.cards(0, ROADS), 0);
    }

    private static void buyRefuses() {
        HexIsland x = Scenes.farmsOfTwo();
        Checks.untimely("phase 3: buy()", () -> x.buy());
        x.roll(2);
        Checks.untimely("no wool: buy()", () -> x.buy());
        for (int lacking = 2; lacking < 5; lacking++) {
            HexIsland y = Scenes.farmsOfTwo();
            y.roll(6);
            int have = y.goods(0, lacking);
            y.offer(1, have << 4 * lacking, 0);
            y.accept();
            Checks.untimely("none of good " + lacking + ": buy()", () -> y.buy());
            y.undo();
            Checks.due("good " + lacking + " again: buy()", y.buy(), 15);
        }
        HexIsland z = Scenes.sixes(Scenes.farmsOfTwo(), 2);
        z.roll(7);
        Checks.untimely("phase 4: buy()", () -> z.buy());
    }

    private static void cardsTells() {
        HexIsland x = Scenes.farmsOfTwo(12, 07);
        x.roll(6);
        x.buy();
        for (int kind = 0; kind < 5; kind++) {
            Checks.due("cards(0, " + kind + ")", x.cards(0, kind), kind == 4 ? 1 : 0);
            Checks.due("cards(1, " + kind + ")", x.cards(1, kind), 0);
        }
        int[][] none = {{-1, 0}, {2, 0}, {0, -1}, {0, 5}, {Integer.MAX_VALUE, 0}, {0, Integer.MIN_VALUE}};
        for (int[] w : none) {
            Checks.outside("cards(" + w[0] + ", " + w[1] + ")", () -> x.cards(w[0], w[1]));
        }
    }

    private static void playRefusesFirst() {
        HexIsland x = Scenes.farmsOfTwo();
        int[][] wrong = {{-1, 0, 0}, {4, 0, 0}, {5, 0, 0}, {GOODS, -1, 0}, {GOODS, 5, 0}, {GOODS, 0, -1}, {GOODS, 0, 5},
            {MONOPOLY, -1, 0}, {MONOPOLY, 5, 0}, {Integer.MIN_VALUE, 0, 0}, {Integer.MAX_VALUE, 0, 0}};
        for (int[] w : wrong) {
            Checks.illegal("phase 3: play(" + w[0] + ", " + w[1] + ", " + w[2] + ")", () -> x.play(w[0], w[1], w[2]));
        }
        for (int kind = 0; kind < 4; kind++) {
            int k = kind;
            Checks.untimely("phase 3: play(" + k + ", 0, 0)", () -> x.play(k, 0, 0));
        }
        x.roll(2);
        for (int[] w : wrong) {
            Checks.illegal("phase 6: play(" + w[0] + ", " + w[1] + ", " + w[2] + ")", () -> x.play(w[0], w[1], w[2]));
        }
        for (int kind = 0; kind < 4; kind++) {
            int k = kind;
            Checks.untimely("no card: play(" + k + ", 0, 0)", () -> x.play(k, 0, 0));
        }
        Checks.untimely("no card: play(0, 9, 9)", () -> x.play(BLOCKER, 9, 9));
        Checks.untimely("no card: play(1, -9, 9)", () -> x.play(ROADS, -9, 9));
        Checks.untimely("no card: play(3, 0, 9)", () -> x.play(MONOPOLY, 0, 9));
        HexIsland y = withCards(04);
        Checks.illegal("a point: play(4, 0, 0)", () -> y.play(4, 0, 0));
    }

    /** Player 0 has bought as many cards as the deck's text has digits, but for a leading 0, and is on turn again. */
    private static HexIsland withCards(long deck) {
        HexIsland x = Scenes.sixes(Scenes.farmsOfTwo(12, deck), 4);
        x.roll(6);
        for (long rest = deck; rest > 0; rest /= 8) {
            x.buy();
        }
        x.pass();
        Scenes.turns(x, 2);
        x.roll(2);
        return x;
    }

    private static void playNeedsAnOldCard() {
        HexIsland x = Scenes.sixes(Scenes.farmsOfTwo(12, 0333), 2);
        x.roll(6);
        x.buy();
        Checks.untimely("bought now: play(3, 0, 0)", () -> x.play(MONOPOLY, 0, 0));
        x.pass();
        x.roll(2);
        Checks.untimely("the other's card: play(3, 0, 0)", () -> x.play(MONOPOLY, 0, 0));
        x.pass();
        Checks.untimely("phase 3: play(3, 0, 0)", () -> x.play(MONOPOLY, 0, 0));
        x.roll(6);
        x.buy();
        Checks.due("an old and a new one: play(3, 0, 0)", x.play(MONOPOLY, 0, 0), 0);
        Checks.due("an old one played: cards(0, 3)", x.cards(0, MONOPOLY), 1);
        x.pass();
        Scenes.turns(x, 2);
        x.roll(6);
        x.buy();
        Checks.due("the new one has grown old: play(3, 0, 0)", x.play(MONOPOLY, 0, 0), 0);
        Checks.due("one is left: cards(0, 3)", x.cards(0, MONOPOLY), 1);
        HexIsland y = withCards(03);
        y.pass();
        y.roll(8);
        y.buy();
        Checks.untimely("bought now, the other's is old: play(0, 0, 0)", () -> y.play(BLOCKER, 0, 0));
    }

    private static void playOneATurn() {
        HexIsland x = withCards(0323);
        Checks.due("play(3, 0, 0)", x.play(MONOPOLY, 0, 0), 0);
        Checks.untimely("a second one: play(3, 0, 0)", () -> x.play(MONOPOLY, 0, 0));
        Checks.untimely("a second one: play(2, 0, 0)", () -> x.play(GOODS, 0, 0));
        x.pass();
        Scenes.turns(x, 2);
        x.roll(2);
        Checks.due("the next turn: play(2, 0, 1)", x.play(GOODS, 0, 1), 2);
    }

    private static void blockerBlocks() {
        HexIsland x = Scenes.sixes(Scenes.farmsOfTwo(12, 0), 4);
        x.roll(6);
        x.buy();
        x.offer(1, 1, 0);
        x.pass();
        Scenes.turns(x, 2);
        x.roll(2);
        x.offer(1, 1, 0);
        Checks.due("play(0, 7, -7)", x.play(BLOCKER, 7, -7), 0);
        Scenes.dueStand("play(0, 7, -7)", x, 5, 0);
        Checks.due("played: cards(0, 0)", x.cards(0, BLOCKER), 0);
        Checks.untimely("phase 5: pass()", () -> x.pass());
        Checks.untimely("phase 5: accept()", () -> x.accept());
        Checks.due("block(8, 1, 1)", x.block(8, 1, 1), 4);
        Scenes.dueStand("the turn goes on", x, 6, 0);
        Checks.due("the offer stands: accept()", x.accept(), 1);
        Checks.due("the turn goes on: place(0, 11)", x.place(ROAD, 11), 2);
        Checks.due("the turn ends: pass()", x.pass(), 1);
    }

    private static void roadsAreFree() {
        HexIsland x = withCards(01);
        Scenes.dueHand("before free roads", x, 0, 5, 5, 4, 5, 5);
        Checks.due("play(1, 99, 99)", x.play(ROADS, 99, 99), 0);
        Scenes.dueStand("free roads", x, 7, 0);
        Checks.due("played: cards(0, 1)", x.cards(0, ROADS), 0);
        Scenes.dueLegal("free roads", x, 11, 12, 20, 25, 26, 27, 29, 36);
        Checks.untimely("phase 7: place(2, 12)", () -> x.place(Scenes.TOWN, 12));
        Checks.untimely("phase 7: place(1, 0)", () -> x.place(HUT, 0));
        Checks.untimely("phase 7: bank(0, 1)", () -> x.bank(0, 1));
        Checks.untimely("phase 7: buy()", () -> x.buy());
        Checks.untimely("phase 7: roll(6)", () -> x.roll(6));
        Checks.untimely("phase 7: offer(1, 1, 0)", () -> x.offer(1, 1, 0));
        Checks.untimely("phase 7: play(1, 0, 0)", () -> x.play(ROADS, 0, 0));
        Checks.misplaced("phase 7: place(0, 71)", () -> x.place(ROAD, 71));
        Checks.misplaced("phase 7: place(0, 19)", () -> x.place(ROAD, 19));
        Checks.due("first free road: place(0, 26)", x.place(ROAD, 26), 2);
        Scenes.dueStand("first free road", x, 7, 0);
        Checks.due("second free road: place(0, 27)", x.place(ROAD, 27), 2);
        Scenes.dueStand("second free road", x, 6, 0);
        Scenes.dueHand("behind free roads", x, 0, 5, 5, 4, 5, 5);
        Checks.due("a road that is paid: place(0, 11)", x.place(ROAD, 11), 4);
        Scenes.dueHand("a road that is paid", x, 0, 4, 4, 4, 5, 5);
    }

    private static void roadsEndByPass() {
        HexIsland x = withCards(011);
        x.play(ROADS, 0, 0);
        Checks.due("pass() at once", x.pass(), 0);
        Scenes.dueStand("pass() at once", x, 6, 0);
        Checks.due("the turn ends: pass()", x.pass(), 1);
        Scenes.turns(x, 2);
        x.roll(2);
        x.play(ROADS, 0, 0);
        x.place(ROAD, 26);
        Checks.due("pass() behind one", x.pass(), 0);
        Scenes.dueStand("pass() behind one", x, 6, 0);
        Checks.due("a road that is paid", x.place(ROAD, 27), 2);
        Scenes.dueHand("a road that is paid", x, 0, 4, 4, 3, 4, 4);
    }

    private static void roadsEndWithTheLastPiece() {
        HexIsland x = Scenes.sixes(Scenes.farmsOfTwo(12, 011), 14);
        x.roll(6);
        x.buy();
        x.buy();
        Scenes.roads(x, 11, 12, 6, 0, 10, 18, 23, 24, 33, 26, 27, 29);
        x.pass();
        Scenes.turns(x, 2);
        x.roll(2);
        x.play(ROADS, 0, 0);
        Scenes.dueStand("fourteen roads", x, 7, 0);
        x.place(ROAD, 25);
        Scenes.dueStand("fifteen roads", x, 6, 0);
        x.pass();
        Scenes.turns(x, 2);
        x.roll(2);
        Checks.untimely("no road left: play(1, 0, 0)", () -> x.play(ROADS, 0, 0));
        Checks.due("no road left: cards(0, 1)", x.cards(0, ROADS), 1);
    }

    /** Player 1 has roads on the edges round both of player 0's; player 0 has a ROADS card. */
    private static HexIsland enclosed(int firstRoad, int... edges) {
        HexIsland x = Scenes.island(3, 0, 6, 4, 1, 6, 0, 2, 8, 2, 3, 8, 1, 4, 8);
        x.deck(ROADS);
        x.players(2, 12);
        Scenes.settle(x, 0, firstRoad, 1, 2, 12, 11, 2, 5);
        Scenes.turns(x, 8);
        x.roll(6);
        x.offer(0, Scenes.bundle(0, 0, 0, 0, 1), 0);
        x.accept();
        x.pass();
        x.roll(6);
        x.buy();
        x.pass();
        Scenes.sixes(x, 6);
        x.roll(2);
        Scenes.roads(x, edges);
        x.pass();
        x.roll(2);
        return x;
    }

    private static void roadsEndWhenEnclosed() {
        HexIsland x = enclosed(0, 6, 1, 3, 4, 8, 15, 16, 9);
        Checks.due("enclosed: play(1, 0, 0)", x.play(ROADS, 0, 0), 0);
        Scenes.dueStand("enclosed", x, 6, 0);
        Checks.due("enclosed: cards(0, 1)", x.cards(0, ROADS), 0);
        Checks.due("enclosed: pass()", x.pass(), 1);
        HexIsland y = enclosed(0, 6, 7, 3, 4, 8, 15, 16, 9);
        y.play(ROADS, 0, 0);
        Scenes.dueStand("one way out", y, 7, 0);
        Scenes.dueLegal("one way out", y, 1);
        Checks.due("one way out: place(0, 1)", y.place(ROAD, 1), 2);
        Scenes.dueStand("the way ends", y, 6, 0);
        HexIsland z = enclosed(1, 6, 7, 3, 4, 8, 15, 16, 9);
        z.play(ROADS, 0, 0);
        Scenes.dueStand("another way out", z, 7, 0);
        Scenes.dueLegal("another way out", z, 0);
    }

    private static void goodsOutOfTheBank() {
        HexIsland x = Scenes.farmsOfTwo(12, 02);
        x.roll(6);
        x.buy();
        x.pass();
        Scenes.sixes(x, 17);
        x.roll(2);
        Scenes.dueHand("little in the bank", x, -1, 1, 1, 2, 0, 0);
        Checks.untimely("one wood: play(2, 0, 0)", () -> x.play(GOODS, 0, 0));
        Checks.untimely("no corn: play(2, 3, 0)", () -> x.play(GOODS, 3, 0));
        Checks.untimely("no corn: play(2, 0, 3)", () -> x.play(GOODS, 0, 3));
        Checks.untimely("no corn: play(2, 3, 3)", () -> x.play(GOODS, 3, 3));
        Checks.due("two wool: play(2, 2, 2)", x.play(GOODS, 2, 2), 2);
        Scenes.dueHand("two wool", x, 0, 18, 18, 19, 18, 18);
        Scenes.dueHand("two wool", x, -1, 1, 1, 0, 0, 0);
        x.undo();
        Checks.due("one of each: play(2, 0, 1)", x.play(GOODS, 0, 1), 2);
        Scenes.dueHand("one of each", x, 0, 19, 19, 17, 18, 18);
        Scenes.dueStand("one of each", x, 6, 0);
    }

    private static void monopolyTakesAll() {
        HexIsland x = Scenes.farms();
        x.deck(03333);
        x.players(3, 12);
        Scenes.settle(x, 12, 19, 34, 50, 25, 31, 2, 5, 41, 60, 24, 28);
        Scenes.turns(x, 6, 8, 9, 8, 9, 9);
        x.roll(6);
        x.buy();
        x.pass();
        Scenes.turns(x, 2, 2);
        x.roll(2);
        Checks.due("five wood: play(3, 0, 77)", x.play(MONOPOLY, 0, 77), 5);
        Scenes.dueHand("five wood", x, 0, 7, 2, 1, 2, 2);
        Scenes.dueHand("five wood", x, 1, 0, 2, 2, 3, 3);
        Scenes.dueHand("five wood", x, 2, 0, 3, 0, 0, 0);
        Scenes.dueHand("five wood", x, -1, 12, 12, 16, 14, 14);
        Scenes.dueStand("five wood", x, 6, 0);
        Checks.due("played: cards(0, 3)", x.cards(0, MONOPOLY), 0);
        x.pass();
        x.roll(2);
        x.buy();
        x.pass();
        Scenes.turns(x, 2, 2);
        x.roll(2);
        Checks.due("player 1 takes wood: play(3, 0, 0)", x.play(MONOPOLY, 0, 0), 7);
        Scenes.dueHand("player 1 takes wood", x, 1, 7, 2, 1, 2, 2);
    }
}
