/** Promises 13, 14 and 21: buy, play and cards; what they refuse by phase is in RefusalTest. */
public final class CardsTest {
    private static final int ROAD = Scenes.ROAD;
    private static final int HUT = Scenes.HUT;
    private static final int BLOCKER = 0;
    private static final int ROADS = 1;
    private static final int GOODS = 2;
    private static final int MONOPOLY = 3;
    private static final int POINT = 4;

    public static void main(String[] args) {
        buyPays();
        buyForTheJustPrice();
        buyTheLastCard();
        cardsTells();
        playRefusesFirst();
        playNeedsAnOldCard();
        playOneATurn();
        playOneATurnAlsoBehindABlock();
        playOfAPoint();
        blockerBlocks();
        roadsAreFree();
        roadsEndAfterTwo();
        roadsEndByPass();
        roadsEndWithTheLastPiece();
        roadsNeedARoadLeft();
        roadsEndWhenEnclosed();
        roadsEndAtOnce();
        goodsOutOfTheBank();
        goodsFirstToLast();
        monopolyTakesAll();
        monopolyOfFour();
        monopolyOfNothing();
        monopolyFirstToLast();
        Checks.end();
    }

    private static void buyPays() {
        Checks.sentence("Buys a card: how many are left in the deck");
        HexIsland x = Scenes.farmsOfTwo(12, 012);
        x.roll(6);
        Checks.due("buy()", x.buy(), 15);
        Scenes.dueHand("bought", x, 0, 1, 1, 0, 1, 1);
        Scenes.dueHand("bought", x, -1, 18, 18, 19, 17, 17);
        Checks.due("the first card: cards(0, 2)", x.cards(0, GOODS), 1);
        x.pass();
        x.roll(8);
        Checks.due("buy()", x.buy(), 14);
        Checks.due("the second card: cards(1, 1)", x.cards(1, ROADS), 1);
        Checks.due("the second card: cards(0, 1)", x.cards(0, ROADS), 0);
    }

    private static void buyForTheJustPrice() {
        Checks.sentence("Prices: a CARD wool, corn, ore");
        HexIsland x = Scenes.keep(Scenes.rolled(Scenes.sixes(Scenes.farmsOfTwo(), 2), 6), 0, 0, 1, 1, 1);
        int[] banked = new int[5];
        for (int good = 0; good < 5; good++) {
            banked[good] = x.goods(-1, good) + (good < 2 ? 0 : 1);
        }
        Checks.due("just the price: buy()", x.buy(), 15);
        Scenes.dueHand("just the price", x, 0, 0, 0, 0, 0, 0);
        Scenes.dueHand("just the price", x, -1, banked);
        Checks.sentence("buy: IllegalStateException when the player has not the goods");
        for (int lacking = 2; lacking < 5; lacking++) {
            int[] hand = {3, 3, 3, 3, 3};
            hand[lacking] = 0;
            HexIsland y = Scenes.keep(Scenes.rolled(Scenes.sixes(Scenes.farmsOfTwo(), 2), 6), hand);
            Checks.untimely("none of good " + lacking + ": buy()", () -> y.buy());
            Scenes.dueHand("none of good " + lacking, y, 0, hand);
            y.undo();
            Checks.due("good " + lacking + " again: buy()", y.buy(), 15);
        }
    }

    private static void buyTheLastCard() {
        Checks.sentence("buy: IllegalStateException when there are none left");
        HexIsland x = RefusalTest.allCardsSold();
        Checks.untimely("the seventeenth card: buy()", () -> x.buy());
        Checks.due("the sixteenth is undone: undo()", x.undo(), 6);
        Checks.due("the sixteenth card: buy()", x.buy(), 0);
        Checks.untimely("the seventeenth card again: buy()", () -> x.buy());
    }

    private static void cardsTells() {
        Checks.sentence("How many cards of a kind 0 .. 4 a player has that were not played");
        HexIsland x = Scenes.farmsOfTwo(12, 07);
        x.roll(6);
        x.buy();
        for (int kind = 0; kind < 5; kind++) {
            Checks.due("cards(0, " + kind + ")", x.cards(0, kind), kind == 4 ? 1 : 0);
            Checks.due("cards(1, " + kind + ")", x.cards(1, kind), 0);
        }
        int[][] none = {{-1, 0}, {2, 0}, {0, -1}, {0, 5}, {Integer.MAX_VALUE, 0}, {0, Integer.MIN_VALUE}};
        for (int[] w : none) {
            Checks.outside("cards(" + w[0] + ", " + w[1] + ")", () -> x.cards(w[0], w[1]));
        }
    }

    private static void playRefusesFirst() {
        Checks.sentence("play: IllegalArgumentException when kind is not 0 .. 3, or a good that counts is none");
        HexIsland x = Scenes.farmsOfTwo();
        int[][] wrong = {{-1, 0, 0}, {4, 0, 0}, {5, 0, 0}, {GOODS, -1, 0}, {GOODS, 5, 0}, {GOODS, 0, -1}, {GOODS, 0, 5},
            {MONOPOLY, -1, 0}, {MONOPOLY, 5, 0}, {Integer.MIN_VALUE, 0, 0}, {Integer.MAX_VALUE, 0, 0}};
        for (int[] w : wrong) {
            Checks.illegal("phase 3: play(" + w[0] + ", " + w[1] + ", " + w[2] + ")", () -> x.play(w[0], w[1], w[2]));
        }
        for (int kind = 0; kind < 4; kind++) {
            int k = kind;
            Checks.untimely("phase 3: play(" + k + ", 0, 0)", () -> x.play(k, 0, 0));
        }
        x.roll(2);
        for (int[] w : wrong) {
            Checks.illegal("phase 6: play(" + w[0] + ", " + w[1] + ", " + w[2] + ")", () -> x.play(w[0], w[1], w[2]));
        }
        for (int kind = 0; kind < 4; kind++) {
            int k = kind;
            Checks.untimely("no card: play(" + k + ", 0, 0)", () -> x.play(k, 0, 0));
        }
        Checks.untimely("no card: play(0, 9, 9)", () -> x.play(BLOCKER, 9, 9));
        Checks.untimely("no card: play(1, -9, 9)", () -> x.play(ROADS, -9, 9));
        Checks.untimely("no card: play(3, 0, 9)", () -> x.play(MONOPOLY, 0, 9));
        HexIsland y = withCards(04);
        Checks.illegal("a point: play(4, 0, 0)", () -> y.play(4, 0, 0));
    }

    /** Player 0 has bought as many cards as the deck's text has digits, but for a leading 0, and is on turn again. */
    private static HexIsland withCards(long deck) {
        HexIsland x = Scenes.sixes(Scenes.farmsOfTwo(12, deck), 4);
        x.roll(6);
        for (long rest = deck; rest > 0; rest /= 8) {
            x.buy();
        }
        x.pass();
        Scenes.turns(x, 2);
        x.roll(2);
        return x;
    }

    private static void playNeedsAnOldCard() {
        Checks.sentence("One that was bought in this turn can't be played");
        HexIsland x = Scenes.sixes(Scenes.farmsOfTwo(12, 0333), 2);
        x.roll(6);
        x.buy();
        Checks.untimely("bought now: play(3, 0, 0)", () -> x.play(MONOPOLY, 0, 0));
        x.pass();
        x.roll(2);
        Checks.untimely("the other's card: play(3, 0, 0)", () -> x.play(MONOPOLY, 0, 0));
        x.pass();
        Checks.untimely("phase 3: play(3, 0, 0)", () -> x.play(MONOPOLY, 0, 0));
        x.roll(6);
        x.buy();
        Checks.due("an old and a new one: play(3, 0, 0)", x.play(MONOPOLY, 0, 0), 0);
        Checks.due("an old one played: cards(0, 3)", x.cards(0, MONOPOLY), 1);
        x.pass();
        Scenes.turns(x, 2);
        x.roll(6);
        x.buy();
        Checks.due("the new one has grown old: play(3, 0, 0)", x.play(MONOPOLY, 0, 0), 0);
        Checks.due("one is left: cards(0, 3)", x.cards(0, MONOPOLY), 1);
        HexIsland y = withCards(03);
        y.pass();
        y.roll(8);
        y.buy();
        Checks.untimely("bought now, the other's is old: play(0, 0, 0)", () -> y.play(BLOCKER, 0, 0));
    }

    private static void playOneATurn() {
        Checks.sentence("one a turn may be");
        HexIsland x = withCards(0323);
        Checks.due("play(3, 0, 0)", x.play(MONOPOLY, 0, 0), 0);
        Checks.untimely("a second one: play(3, 0, 0)", () -> x.play(MONOPOLY, 0, 0));
        Checks.untimely("a second one: play(2, 0, 0)", () -> x.play(GOODS, 0, 0));
        x.pass();
        Scenes.turns(x, 2);
        x.roll(2);
        Checks.due("the next turn: play(2, 0, 1)", x.play(GOODS, 0, 1), 2);
    }

    private static void playOneATurnAlsoBehindABlock() {
        Checks.sentence("play: IllegalStateException when one was played in it");
        HexIsland x = withCards(03210);
        x.play(BLOCKER, 0, 0);
        x.block(2, -1, 0);
        for (int kind = 0; kind < 4; kind++) {
            int each = kind;
            Checks.untimely("behind a block: play(" + kind + ", 0, 0)", () -> x.play(each, 0, 0));
        }
        Scenes.turns(Scenes.passed(x), 2);
        x.roll(2);
        x.play(ROADS, 0, 0);
        x.pass();
        Checks.untimely("behind free roads: play(2, 0, 0)", () -> x.play(GOODS, 0, 0));
        Scenes.turns(Scenes.passed(x), 2);
        x.roll(2);
        Checks.due("the next turn: play(2, 0, 0)", x.play(GOODS, 0, 0), 2);
        Checks.untimely("behind goods: play(3, 0, 0)", () -> x.play(MONOPOLY, 0, 0));
        Scenes.turns(Scenes.passed(x), 2);
        x.roll(2);
        Checks.due("the turn behind that: play(3, 0, 0)", x.play(MONOPOLY, 0, 0), 0);
    }

    private static void playOfAPoint() {
        Checks.sentence("4 POINT: it can't be played");
        HexIsland x = withCards(04);
        Checks.illegal("an old point: play(4, 0, 0)", () -> x.play(POINT, 0, 0));
        Checks.due("it stays: cards(0, 4)", x.cards(0, POINT), 1);
        Checks.due("it stays: points(0)", x.points(0), 3);
    }

    private static void blockerBlocks() {
        Checks.sentence("0 BLOCKER: BLOCKING, and then the turn goes on");
        HexIsland x = Scenes.sixes(Scenes.farmsOfTwo(12, 0), 4);
        x.roll(6);
        x.buy();
        x.offer(1, 1, 0);
        x.pass();
        Scenes.turns(x, 2);
        x.roll(2);
        x.offer(1, 1, 0);
        Checks.due("play(0, 7, -7)", x.play(BLOCKER, 7, -7), 0);
        Scenes.dueStand("play(0, 7, -7)", x, 5, 0);
        Checks.due("played: cards(0, 0)", x.cards(0, BLOCKER), 0);
        Checks.untimely("phase 5: pass()", () -> x.pass());
        Checks.untimely("phase 5: accept()", () -> x.accept());
        Checks.due("block(8, 1, 1)", x.block(8, 1, 1), 4);
        Scenes.dueStand("the turn goes on", x, 6, 0);
        Checks.due("the offer stands: accept()", x.accept(), 1);
        Checks.due("the turn goes on: place(0, 11)", x.place(ROAD, 11), 2);
        Checks.due("the turn ends: pass()", x.pass(), 1);
    }

    private static void roadsAreFree() {
        Checks.sentence("1 ROADS: the next two roads are free, in phase 7");
        HexIsland x = withCards(01);
        Scenes.dueHand("before free roads", x, 0, 5, 5, 4, 5, 5);
        Checks.due("play(1, 99, 99)", x.play(ROADS, 99, 99), 0);
        Scenes.dueStand("free roads", x, 7, 0);
        Checks.due("played: cards(0, 1)", x.cards(0, ROADS), 0);
        Scenes.dueLegal("free roads", x, 11, 12, 20, 25, 26, 27, 29, 36);
        Checks.untimely("phase 7: place(2, 12)", () -> x.place(Scenes.TOWN, 12));
        Checks.untimely("phase 7: place(1, 0)", () -> x.place(HUT, 0));
        Checks.untimely("phase 7: bank(0, 1)", () -> x.bank(0, 1));
        Checks.untimely("phase 7: buy()", () -> x.buy());
        Checks.untimely("phase 7: roll(6)", () -> x.roll(6));
        Checks.untimely("phase 7: offer(1, 1, 0)", () -> x.offer(1, 1, 0));
        Checks.untimely("phase 7: play(1, 0, 0)", () -> x.play(ROADS, 0, 0));
        Checks.misplaced("phase 7: place(0, 71)", () -> x.place(ROAD, 71));
        Checks.misplaced("phase 7: place(0, 19)", () -> x.place(ROAD, 19));
        Checks.due("first free road: place(0, 26)", x.place(ROAD, 26), 2);
        Scenes.dueStand("first free road", x, 7, 0);
        Checks.due("second free road: place(0, 27)", x.place(ROAD, 27), 2);
        Scenes.dueStand("second free road", x, 6, 0);
        Scenes.dueHand("behind free roads", x, 0, 5, 5, 4, 5, 5);
        Checks.due("a road that is paid: place(0, 11)", x.place(ROAD, 11), 4);
        Scenes.dueHand("a road that is paid", x, 0, 4, 4, 4, 5, 5);
    }

    private static void roadsEndAfterTwo() {
        Checks.sentence("in phase 7, which ends after two");
        HexIsland x = withCards(01);
        x.play(ROADS, 0, 0);
        x.place(ROAD, 26);
        Scenes.dueStand("after one", x, 7, 0);
        x.place(ROAD, 27);
        Scenes.dueStand("after two", x, 6, 0);
        Checks.due("the third is paid: place(0, 11)", x.place(ROAD, 11), 4);
        Scenes.dueHand("the third is paid", x, 0, 4, 4, 4, 5, 5);
        HexIsland y = Scenes.keep(withCards(01), 0, 0, 0, 0, 0);
        y.play(ROADS, 0, 0);
        Checks.due("free without goods: place(0, 26)", y.place(ROAD, 26), 2);
        Checks.due("free without goods: place(0, 27)", y.place(ROAD, 27), 2);
        Checks.untimely("not free without goods: place(0, 11)", () -> y.place(ROAD, 11));
    }

    private static void roadsEndByPass() {
        Checks.sentence("in phase 7, which ends by pass");
        HexIsland x = withCards(011);
        x.play(ROADS, 0, 0);
        Checks.due("pass() at once", x.pass(), 0);
        Scenes.dueStand("pass() at once", x, 6, 0);
        Checks.due("the turn ends: pass()", x.pass(), 1);
        Scenes.turns(x, 2);
        x.roll(2);
        x.play(ROADS, 0, 0);
        x.place(ROAD, 26);
        Checks.due("pass() behind one", x.pass(), 0);
        Scenes.dueStand("pass() behind one", x, 6, 0);
        Checks.due("a road that is paid", x.place(ROAD, 27), 2);
        Scenes.dueHand("a road that is paid", x, 0, 4, 4, 3, 4, 4);
    }

    /** Player 0 has fourteen roads and two old ROADS cards. */
    private static HexIsland oneRoadLeft() {
        HexIsland x = Scenes.rolled(Scenes.sixes(Scenes.farmsOfTwo(12, 011), 14), 6);
        x.buy();
        x.buy();
        Scenes.roads(x, 11, 12, 6, 0, 10, 18, 23, 24, 33, 26, 27, 29);
        x.pass();
        Scenes.turns(x, 2);
        x.roll(2);
        return x;
    }

    private static void roadsEndWithTheLastPiece() {
        Checks.sentence("in phase 7, which ends when the player has no road left");
        HexIsland x = oneRoadLeft();
        x.play(ROADS, 0, 0);
        Scenes.dueStand("fourteen roads", x, 7, 0);
        x.place(ROAD, 25);
        Scenes.dueStand("fifteen roads", x, 6, 0);
        Checks.untimely("the sixteenth road: place(0, 36)", () -> x.place(ROAD, 36));
    }

    private static void roadsNeedARoadLeft() {
        Checks.sentence("play: IllegalStateException when for kind 1 the player has no road left");
        HexIsland x = oneRoadLeft();
        x.place(ROAD, 25);
        Checks.untimely("fifteen roads: play(1, 0, 0)", () -> x.play(ROADS, 0, 0));
        Checks.due("fifteen roads: cards(0, 1)", x.cards(0, ROADS), 2);
        Scenes.dueStand("fifteen roads", x, 6, 0);
        x.undo();
        Checks.due("fourteen roads: play(1, 0, 0)", x.play(ROADS, 0, 0), 0);
        Checks.due("fourteen roads: cards(0, 1)", x.cards(0, ROADS), 1);
    }

    /** Player 1 has roads on the edges round both of player 0's; player 0 has a ROADS card. */
    private static HexIsland enclosed(int firstRoad, int... edges) {
        HexIsland x = Scenes.island(3, 0, 6, 4, 1, 6, 0, 2, 8, 2, 3, 8, 1, 4, 8);
        x.deck(ROADS);
        x.players(2, 12);
        Scenes.settle(x, 0, firstRoad, 1, 2, 12, 11, 2, 5);
        Scenes.turns(x, 8);
        x.roll(6);
        x.offer(0, Scenes.bundle(0, 0, 0, 0, 1), 0);
        x.accept();
        x.pass();
        x.roll(6);
        x.buy();
        x.pass();
        Scenes.sixes(x, 6);
        x.roll(2);
        Scenes.roads(x, edges);
        x.pass();
        x.roll(2);
        return x;
    }

    private static void roadsEndWhenEnclosed() {
        Checks.sentence("in phase 7, which ends when no free road can be built, after any of them");
        HexIsland x = enclosed(0, 6, 7, 3, 4, 8, 15, 16, 9);
        x.play(ROADS, 0, 0);
        Scenes.dueStand("one way out", x, 7, 0);
        Scenes.dueLegal("one way out", x, 1);
        Checks.due("one way out: place(0, 1)", x.place(ROAD, 1), 2);
        Scenes.dueStand("the way ends", x, 6, 0);
        HexIsland y = enclosed(1, 6, 7, 3, 4, 8, 15, 16, 9);
        y.play(ROADS, 0, 0);
        Scenes.dueStand("another way out", y, 7, 0);
        Scenes.dueLegal("another way out", y, 0);
    }

    private static void roadsEndAtOnce() {
        Checks.sentence("or no free road can be built, after any of them (also at once)");
        HexIsland x = enclosed(0, 6, 1, 3, 4, 8, 15, 16, 9);
        Checks.due("enclosed: play(1, 0, 0)", x.play(ROADS, 0, 0), 0);
        Scenes.dueStand("enclosed", x, 6, 0);
        Checks.due("enclosed: cards(0, 1)", x.cards(0, ROADS), 0);
        Checks.due("enclosed: pass()", x.pass(), 1);
    }

    private static void goodsOutOfTheBank() {
        Checks.sentence("play: IllegalStateException when for kind 2 the bank has not these");
        HexIsland x = Scenes.farmsOfTwo(12, 02);
        x.roll(6);
        x.buy();
        x.pass();
        Scenes.sixes(x, 17);
        x.roll(2);
        Scenes.dueHand("little in the bank", x, -1, 1, 1, 2, 0, 0);
        Checks.untimely("one wood: play(2, 0, 0)", () -> x.play(GOODS, 0, 0));
        Checks.untimely("no corn: play(2, 3, 0)", () -> x.play(GOODS, 3, 0));
        Checks.untimely("no corn: play(2, 0, 3)", () -> x.play(GOODS, 0, 3));
        Checks.untimely("no corn: play(2, 3, 3)", () -> x.play(GOODS, 3, 3));
        Checks.due("two wool: play(2, 2, 2)", x.play(GOODS, 2, 2), 2);
        Scenes.dueHand("two wool", x, 0, 18, 18, 19, 18, 18);
        Scenes.dueHand("two wool", x, -1, 1, 1, 0, 0, 0);
        x.undo();
        Checks.due("one of each: play(2, 0, 1)", x.play(GOODS, 0, 1), 2);
        Scenes.dueHand("one of each", x, 0, 19, 19, 17, 18, 18);
        Scenes.dueStand("one of each", x, 6, 0);
    }

    private static void goodsFirstToLast() {
        Checks.sentence("2 GOODS: the player gets a good a and a good b out of the bank");
        for (int a = -1; a <= 5; a++) {
            for (int b = -1; b <= 5; b++) {
                HexIsland x = withCards(02);
                int first = a;
                int second = b;
                String call = "play(2, " + a + ", " + b + ")";
                if (a < 0 || b < 0 || a > 4 || b > 4) {
                    Checks.illegal(call, () -> x.play(GOODS, first, second));
                    Checks.due(call + ": cards(0, 2)", x.cards(0, GOODS), 1);
                    continue;
                }
                int[] hand = {5, 5, 4, 5, 5};
                int[] bank = {14, 14, 15, 13, 13};
                hand[a]++;
                hand[b]++;
                bank[a]--;
                bank[b]--;
                Checks.due(call, x.play(GOODS, a, b), 2);
                Scenes.dueHand(call, x, 0, hand);
                Scenes.dueHand(call, x, -1, bank);
                Checks.due(call + ": cards(0, 2)", x.cards(0, GOODS), 0);
            }
        }
    }

    private static void monopolyTakesAll() {
        Checks.sentence("3 MONOPOLY: all other players give the player all that they have of good a");
        HexIsland x = Scenes.farms();
        x.deck(03333);
        x.players(3, 12);
        Scenes.settle(x, 12, 19, 34, 50, 25, 31, 2, 5, 41, 60, 24, 28);
        Scenes.turns(x, 6, 8, 9, 8, 9, 9);
        x.roll(6);
        x.buy();
        x.pass();
        Scenes.turns(x, 2, 2);
        x.roll(2);
        Checks.due("five wood: play(3, 0, 77)", x.play(MONOPOLY, 0, 77), 5);
        Scenes.dueHand("five wood", x, 0, 7, 2, 1, 2, 2);
        Scenes.dueHand("five wood", x, 1, 0, 2, 2, 3, 3);
        Scenes.dueHand("five wood", x, 2, 0, 3, 0, 0, 0);
        Scenes.dueHand("five wood", x, -1, 12, 12, 16, 14, 14);
        Scenes.dueStand("five wood", x, 6, 0);
        Checks.due("played: cards(0, 3)", x.cards(0, MONOPOLY), 0);
        x.pass();
        x.roll(2);
        x.buy();
        x.pass();
        Scenes.turns(x, 2, 2);
        x.roll(2);
        Checks.due("player 1 takes wood: play(3, 0, 0)", x.play(MONOPOLY, 0, 0), 7);
        Scenes.dueHand("player 1 takes wood", x, 1, 7, 2, 1, 2, 2);
    }

    private static void monopolyOfFour() {
        Checks.sentence("3 MONOPOLY: all other players give the player all that they have of good a");
        HexIsland x = Scenes.farms();
        x.deck(03);
        x.players(4, 12);
        Scenes.settle(x, 12, 19, 34, 50, 2, 5, 25, 31, 52, 68, 51, 66, 41, 60, 24, 28);
        Scenes.turns(x, 6, 8, 9, 9);
        x.roll(2);
        x.buy();
        x.pass();
        Scenes.turns(x, 2, 2, 2);
        x.roll(2);
        Scenes.dueHand("the last of four", x, 3, 2, 2, 0, 0, 0);
        Checks.due("three wood: play(3, 0, 0)", x.play(MONOPOLY, 0, 0), 3);
        Scenes.dueHand("three wood", x, 0, 4, 1, 0, 1, 1);
        Scenes.dueHand("three wood", x, 1, 0, 1, 1, 2, 2);
        Scenes.dueHand("three wood", x, 2, 0, 0, 0, 0, 0);
        Scenes.dueHand("three wood", x, 3, 0, 2, 0, 0, 0);
        Scenes.dueHand("three wood", x, -1, 15, 15, 18, 16, 16);
    }

    private static void monopolyOfNothing() {
        Checks.sentence("3 MONOPOLY: all other players give the player all that they have of good a");
        HexIsland x = withCards(03);
        Checks.due("nobody has wood: play(3, 0, 0)", x.play(MONOPOLY, 0, 0), 0);
        Scenes.dueHand("nobody has wood", x, 0, 5, 5, 4, 5, 5);
        Checks.due("nobody has wood: cards(0, 3)", x.cards(0, MONOPOLY), 0);
    }

    private static void monopolyFirstToLast() {
        Checks.sentence("play: (a counts for kinds 2 and 3, b for kind 2 only)");
        for (int a = -1; a <= 5; a++) {
            HexIsland x = withCards(03);
            int good = a;
            if (a < 0 || a > 4) {
                Checks.illegal("play(3, " + a + ", 0)", () -> x.play(MONOPOLY, good, 0));
            } else {
                Checks.due("play(3, " + a + ", -9)", x.play(MONOPOLY, a, -9), a < 3 ? 0 : 1);
            }
        }
        Checks.due("play(0, -9, 9)", withCards(010).play(BLOCKER, -9, 9), 0);
        Checks.due("play(1, -9, 9)", withCards(01).play(ROADS, -9, 9), 0);
        Checks.illegal("play(2, 0, 9)", () -> withCards(02).play(GOODS, 0, 9));
    }
}
