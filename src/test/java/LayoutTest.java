import java.util.Random;

/** Promises 1 to 5: a new object, hex, port, deck and players; what they refuse is in RefusalTest, too. */
public final class LayoutTest {
    private static final int[] NINE_EDGES = {0, 3, 9, 22, 38, 53, 65, 69, 66};

    public static void main(String[] args) {
        newObject();
        newObjectRefuses();
        newDeck();
        newHexes();
        newPorts();
        hexesFirstToLast();
        hexGoodsAndNumbers();
        hexIsBarrenAgain();
        portsAreCounted();
        portKindsFirstToLast();
        portsShareNoCorner();
        ninePortsAtMost();
        deckInOrder();
        deckKindsAboveFour();
        deckBitsThatDoNotCount();
        deckAnew();
        numbersOfPlayers();
        targetsFirstToLast();
        oneBarrenIsBlocked();
        firstOfSeveralBarrenIsBlocked();
        noneBarrenNoneBlocked();
        Checks.end();
    }

    private static void newObject() {
        Checks.sentence("HexIsland(): LAYOUT");
        HexIsland x = new HexIsland();
        Scenes.dueStand("new", x, 0, -1);
        Checks.due("new: winner()", x.winner(), -1);
        Checks.due("new: award()", x.award(), -1);
        Checks.due("new: legal(0)", x.legal(0), -1);
        Scenes.dueHand("new", x, -1, 19, 19, 19, 19, 19);
        for (int spot = 0; spot < 54; spot++) {
            Checks.due("new: owner(1, " + spot + ")", x.owner(1, spot), -1);
        }
        for (int spot = 0; spot < 72; spot++) {
            Checks.due("new: owner(0, " + spot + ")", x.owner(0, spot), -1);
        }
    }

    private static void newObjectRefuses() {
        Checks.sentence("HexIsland(): LAYOUT, in which there is no player");
        HexIsland x = new HexIsland();
        Checks.outside("new: goods(0, 0)", () -> x.goods(0, 0));
        Checks.outside("new: cards(0, 0)", () -> x.cards(0, 0));
        Checks.outside("new: points(0)", () -> x.points(0));
        Checks.outside("new: chain(0)", () -> x.chain(0));
        Checks.outside("new: forecast(0, 0, 1)", () -> x.forecast(0, 0, 1));
        Checks.outside("new: forecast(0, 0, 9)", () -> x.forecast(0, 0, 9));
        Checks.illegal("new: offer(0, 1, 1)", () -> x.offer(0, 1, 1));
        Checks.untimely("new: place(1, 0)", () -> x.place(1, 0));
        Checks.untimely("new: roll(6)", () -> x.roll(6));
        Checks.untimely("new: give(0, 0)", () -> x.give(0, 0));
        Checks.untimely("new: block(0, -1, 0)", () -> x.block(0, -1, 0));
        Checks.untimely("new: bank(0, 1)", () -> x.bank(0, 1));
        Checks.untimely("new: accept()", () -> x.accept());
        Checks.untimely("new: buy()", () -> x.buy());
        Checks.untimely("new: play(0, 0, 0)", () -> x.play(0, 0, 0));
        Checks.untimely("new: pass()", () -> x.pass());
        Checks.untimely("new: undo()", () -> x.undo());
    }

    private static void newDeck() {
        Checks.sentence("HexIsland(): the deck has 16 cards of kind 0");
        HexIsland x = Scenes.farms();
        x.players(2, 12);
        Scenes.settle(x, 12, 19, 34, 50, 41, 60, 24, 28);
        dueBought("new deck", x, new int[16]);
        Scenes.dueHand("new deck: goods for a seventeenth", x, 1, 9, 9, 1, 1, 1);
        Checks.untimely("new deck: buy()", () -> x.buy());
    }

    private static void newHexes() {
        Checks.sentence("HexIsland(): all hexes are barren");
        HexIsland x = new HexIsland();
        x.players(2, 3);
        Scenes.settle(x, 12, 19, 34, 50, 41, 60, 24, 28);
        for (int player = 0; player < 2; player++) {
            Scenes.dueHand("all barren", x, player, 0, 0, 0, 0, 0);
            for (int good = 0; good < 5; good++) {
                Checks.due("all barren: forecast", x.forecast(player, good, 1), 0);
            }
        }
        for (int number = 2; number <= 12; number++) {
            Checks.due("all barren: roll(" + number + ")", x.roll(number), 0);
            if (number == 7) {
                x.block(1, -1, 0);
            }
            x.pass();
        }
    }

    private static void newPorts() {
        Checks.sentence("HexIsland(): there are no ports");
        for (int corner = 0; corner < 54; corner++) {
            HexIsland x = new HexIsland();
            for (int h = 0; h < 19; h++) {
                x.hex(h, Scenes.WOOD, 6);
            }
            x.players(2, 12);
            x.place(Scenes.HUT, corner);
            x.place(Scenes.ROAD, x.legal(0));
            for (int k = 0; k < 3; k++) {
                x.place(Scenes.HUT, x.legal(0) - 100);
                x.place(Scenes.ROAD, x.legal(0));
            }
            Scenes.sixes(x, 2);
            x.roll(6);
            Checks.due("a hut on " + corner + " of a new island: bank(0, 1)", x.bank(0, 1), 4);
        }
    }

    private static int ways(int number) {
        return number < 7 ? number - 1 : 13 - number;
    }

    private static void hexesFirstToLast() {
        Checks.sentence("HEXES 0 .. 18");
        HexIsland x = new HexIsland();
        x.hex(0, 1, 6);
        x.hex(18, 1, 5);
        Checks.illegal("hex(-1, 1, 6)", () -> x.hex(-1, 1, 6));
        Checks.illegal("hex(19, 1, 6)", () -> x.hex(19, 1, 6));
        x.players(2, 3);
        Scenes.settle(x, 0, 0, 53, 71);
        Checks.due("hex 0: forecast(0, 1, 1)", x.forecast(0, 1, 1), 5);
        Checks.due("hex 18: forecast(1, 1, 1)", x.forecast(1, 1, 1), 4);
    }

    private static void hexGoodsAndNumbers() {
        Checks.sentence("A hex bears a good and has a NUMBER 2 .. 12, not 7");
        for (int good = -1; good <= 6; good++) {
            for (int number = -1; number <= 14; number++) {
                HexIsland x = Scenes.island(9, 3, 4);
                int g = good;
                int n = number;
                boolean bears = good >= 0 && good <= 4 && number >= 2 && number <= 12 && number != 7;
                boolean barren = good == 5 && number == 0;
                String call = "hex(9, " + good + ", " + number + ")";
                if (bears || barren) {
                    x.hex(9, good, number);
                } else {
                    Checks.illegal(call, () -> x.hex(9, g, n));
                }
                x.players(2, 3);
                x.place(Scenes.HUT, 23);
                for (int k = 0; k < 5; k++) {
                    int due = bears ? k == good ? ways(number) : 0 : k == 3 && !barren ? ways(4) : 0;
                    Checks.due(call + ": forecast(0, " + k + ", 1)", x.forecast(0, k, 1), due);
                }
            }
        }
    }

    private static void hexIsBarrenAgain() {
        Checks.sentence("or is barren (5), its number 0");
        HexIsland x = Scenes.island(0, 4, 6);
        x.hex(0, 5, 0);
        x.players(2, 3);
        Scenes.settle(x, 0, 0, 53, 71, 51, 66, 7, 11);
        Checks.due("barren again: forecast(0, 4, 1)", x.forecast(0, 4, 1), 0);
        Scenes.dueHand("barren again", x, 0, 0, 0, 0, 0, 0);
        Checks.due("barren again: roll(6)", x.roll(6), 0);
    }

    private static void portsAreCounted() {
        Checks.sentence("A port of a kind on an edge: how many there are");
        HexIsland x = new HexIsland();
        for (int k = 0; k < 9; k++) {
            Checks.due("port(" + NINE_EDGES[k] + ", " + k % 6 + ")", x.port(NINE_EDGES[k], k % 6), k + 1);
            if (k < 8) {
                Checks.misplaced("a port that does not count", () -> x.port(0, 0));
            }
        }
    }

    private static void portKindsFirstToLast() {
        Checks.sentence("each of a KIND: 0 .. 4 for that good, 5 for all");
        HexIsland x = new HexIsland();
        Checks.illegal("port(0, -1)", () -> x.port(0, -1));
        Checks.illegal("port(0, 6)", () -> x.port(0, 6));
        for (int kind = 0; kind <= 5; kind++) {
            Checks.due("port(" + NINE_EDGES[kind] + ", " + kind + ")", x.port(NINE_EDGES[kind], kind), kind + 1);
        }
        Checks.sentence("port: IllegalArgumentException when there is no such edge");
        HexIsland y = new HexIsland();
        Checks.illegal("port(-1, 0)", () -> y.port(-1, 0));
        Checks.illegal("port(72, 0)", () -> y.port(72, 0));
        Checks.due("port(0, 0)", y.port(0, 0), 1);
        Checks.due("port(71, 0)", y.port(71, 0), 2);
    }

    private static void portsShareNoCorner() {
        Checks.sentence("PORTS are on shore edges, no two at one corner");
        HexIsland x = new HexIsland();
        Checks.misplaced("port(30, 5), no shore edge", () -> x.port(30, 5));
        Checks.misplaced("port(7, 5), no shore edge, though a corner is at the shore", () -> x.port(7, 5));
        Checks.due("port(2, 5)", x.port(2, 5), 1);
        Checks.misplaced("port(2, 5) again", () -> x.port(2, 5));
        Checks.misplaced("port(1, 5), whose greater corner has one", () -> x.port(1, 5));
        Checks.misplaced("port(3, 5), whose less corner has one", () -> x.port(3, 5));
        Checks.due("port(4, 0), one edge on", x.port(4, 0), 2);
        Checks.due("port(0, 0), one edge back", x.port(0, 0), 3);
        Checks.misplaced("port(6, 0), whose less corner has one", () -> x.port(6, 0));
    }

    private static void ninePortsAtMost() {
        Checks.sentence("PORTS, at most 9");
        HexIsland x = new HexIsland();
        for (int k = 0; k < 8; k++) {
            x.port(NINE_EDGES[k], 0);
        }
        Checks.due("the ninth port", x.port(NINE_EDGES[8], 0), 9);
        Checks.untimely("the tenth port", () -> x.port(33, 0));
        Checks.untimely("the tenth port, no such edge", () -> x.port(72, 0));
        Checks.untimely("the tenth port, no such kind", () -> x.port(33, 6));
        Checks.untimely("the tenth port, no shore", () -> x.port(30, 0));
    }

    /** Player 0 buys the first eight cards of the deck, player 1 the others. */
    private static void dueBought(String deck, HexIsland x, int... kinds) {
        for (int k = 0; k < 10; k++) {
            Scenes.turns(x, 6, 8);
        }
        for (int k = 0; k < 16; k++) {
            if (k % 8 == 0) {
                if (k == 8) {
                    x.pass();
                }
                x.roll(2);
            }
            int had = x.cards(k / 8, kinds[k]);
            Checks.due(deck + ", card " + k + ": buy()", x.buy(), 15 - k);
            Checks.due(deck + ", card " + k + ": cards(" + k / 8 + ", " + kinds[k] + ")", x.cards(k / 8, kinds[k]), had + 1);
        }
    }

    private static void deckInOrder() {
        Checks.sentence("The kinds of the deck's 16 cards, three bits each, the first one lowest");
        HexIsland x = Scenes.farmsOfTwo(12, 03_1_4_2_0_3_1_4__0_4_3_2_1_4_0_1L);
        dueBought("deck in order", x, 1, 0, 4, 1, 2, 3, 4, 0, 4, 1, 3, 0, 2, 4, 1, 3);
    }

    private static void deckKindsAboveFour() {
        Checks.sentence("deck: 5 to 7 count as 4");
        HexIsland x = Scenes.farmsOfTwo(12, 07_0_6_1_5_2_4_3__3_4_2_5_1_6_0_7L);
        dueBought("deck of 0 .. 7", x, 4, 0, 4, 1, 4, 2, 4, 3, 3, 4, 2, 4, 1, 4, 0, 4);
        Checks.due("four point cards: points(0)", x.points(0), 6);
    }

    private static void deckBitsThatDoNotCount() {
        Checks.sentence("deck: bits above these 48 do not count");
        dueBought("bits above", Scenes.farmsOfTwo(12, -1L << 48), new int[16]);
        HexIsland x = Scenes.farmsOfTwo(12, Long.MIN_VALUE | 3L << 45);
        dueBought("the last three bits", x, 0, 0, 0, 0, 0, 0, 0, 0, 0, 0, 0, 0, 0, 0, 0, 3);
    }

    private static void deckAnew() {
        Checks.sentence("deck: the kinds of the deck's 16 cards, those of the last call");
        HexIsland x = Scenes.farms();
        x.deck(new Random(1).nextLong());
        x.deck(3);
        x.players(2, 12);
        Scenes.settle(x, 12, 19, 34, 50, 41, 60, 24, 28);
        dueBought("deck anew", x, 3, 0, 0, 0, 0, 0, 0, 0, 0, 0, 0, 0, 0, 0, 0, 0);
    }

    private static void numbersOfPlayers() {
        Checks.sentence("players: IllegalArgumentException when n is not 2 .. 4");
        for (int n = 0; n <= 6; n++) {
            int count = n;
            HexIsland x = new HexIsland();
            if (n < 2 || n > 4) {
                Checks.illegal("players(" + n + ", 3)", () -> x.players(count, 3));
                Scenes.dueStand("players refused", x, 0, -1);
            } else {
                x.players(n, 3);
                Scenes.dueStand("players(" + n + ", 3)", x, 1, 0);
                Checks.due("points of the last one", x.points(n - 1), 0);
                Checks.outside("points(" + n + ")", () -> x.points(count));
            }
        }
    }

    private static void targetsFirstToLast() {
        Checks.sentence("players: IllegalArgumentException when target not 3 .. 12");
        HexIsland x = new HexIsland();
        Checks.illegal("players(2, 2)", () -> x.players(2, 2));
        Checks.illegal("players(4, 13)", () -> x.players(4, 13));
        Scenes.dueStand("targets refused", x, 0, -1);
        Checks.sentence("players: for a target of points");
        for (int target = 3; target <= 12; target++) {
            HexIsland y = Scenes.sixes(Scenes.farmsOfTwo(target, -1L), 10);
            y.roll(6);
            for (int points = 3; points < target; points++) {
                y.buy();
                Checks.due(points + " of " + target + " points: phase()", y.phase(), 6);
                Checks.due(points + " of " + target + " points: winner()", y.winner(), -1);
            }
            y.buy();
            Checks.due("the target of " + target + ": points(0)", y.points(0), target);
            Checks.due("the target of " + target + ": phase()", y.phase(), 8);
            Checks.due("the target of " + target + ": winner()", y.winner(), 0);
        }
    }

    /** All hexes bear wood, but for those named; huts lie beside the hexes 0, 2, 16 and 18 alone, and a 7 is rolled. */
    private static HexIsland rolledSeven(int... barren) {
        HexIsland x = new HexIsland();
        for (int h = 0; h < 19; h++) {
            x.hex(h, Scenes.WOOD, 8);
        }
        for (int h : barren) {
            x.hex(h, 5, 0);
        }
        x.players(2, 3);
        Scenes.settle(x, 0, 0, 2, 5, 53, 71, 51, 66);
        x.roll(7);
        return x;
    }

    private static void dueBlocked(String when, int blocked, int... barren) {
        for (int h = 0; h < 19; h++) {
            int hex = h;
            HexIsland x = rolledSeven(barren);
            int victim = h == 2 || h == 18 ? 1 : -1;
            boolean hasGoods = x.goods(1, Scenes.WOOD) > 0;
            if (h == blocked) {
                Checks.illegal(when + ": block(" + h + ")", () -> x.block(hex, hasGoods ? victim : -1, 0));
            } else {
                int due = hasGoods && victim == 1 ? Scenes.WOOD : -1;
                Checks.due(when + ": block(" + h + ")", x.block(h, hasGoods ? victim : -1, 0), due);
            }
        }
    }

    private static void oneBarrenIsBlocked() {
        Checks.sentence("The barren hex is blocked at first");
        for (int h = 0; h < 19; h++) {
            dueBlocked("hex " + h + " barren", h, h);
        }
    }

    private static void firstOfSeveralBarrenIsBlocked() {
        Checks.sentence("The barren hex is blocked at first (the first one, if there are several)");
        dueBlocked("7 and 11 barren", 7, 11, 7);
        dueBlocked("0 and 18 barren", 0, 0, 18);
        dueBlocked("17 and 18 barren", 17, 18, 17);
    }

    private static void noneBarrenNoneBlocked() {
        Checks.sentence("The barren hex is blocked at first (none, if there is none)");
        dueBlocked("none barren", -1);
    }
}
