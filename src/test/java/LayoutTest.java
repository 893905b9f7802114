import java.util.Random;

/** Promises 1 to 5: a new object, hex, port, deck and players. */
public final class LayoutTest {
    public static void main(String[] args) {
        newObject();
        newDeck();
        newHexes();
        hexTakes();
        hexRefuses();
        portTakes();
        portRefuses();
        deckInOrder();
        deckAnew();
        playersTakes();
        playersRefuses();
        firstBarrenIsBlocked();
        layoutEnds();
        Checks.end();
    }

    private static void newObject() {
        HexIsland x = new HexIsland();
        Scenes.dueStand("new", x, 0, -1);
        Checks.due("new: winner()", x.winner(), -1);
        Checks.due("new: award()", x.award(), -1);
        Checks.due("new: legal(0)", x.legal(0), -1);
        Scenes.dueHand("new", x, -1, 19, 19, 19, 19, 19);
        for (int spot = 0; spot < 54; spot++) {
            Checks.due("new: owner(1, " + spot + ")", x.owner(1, spot), -1);
        }
        for (int spot = 0; spot < 72; spot++) {
            Checks.due("new: owner(0, " + spot + ")", x.owner(0, spot), -1);
        }
        Checks.outside("new: goods(0, 0)", () -> x.goods(0, 0));
        Checks.outside("new: cards(0, 0)", () -> x.cards(0, 0));
        Checks.outside("new: points(0)", () -> x.points(0));
        Checks.outside("new: chain(0)", () -> x.chain(0));
        Checks.outside("new: forecast(0, 0, 1)", () -> x.forecast(0, 0, 1));
        Checks.outside("new: forecast(0, 0, 9)", () -> x.forecast(0, 0, 9));
        Checks.untimely("new: place(1, 0)", () -> x.place(1, 0));
        Checks.untimely("new: roll(6)", () -> x.roll(6));
        Checks.untimely("new: roll(1)", () -> x.roll(1));
        Checks.untimely("new: give(9, 9)", () -> x.give(9, 9));
        Checks.untimely("new: block(0, -1, 0)", () -> x.block(0, -1, 0));
        Checks.untimely("new: bank(0, 1)", () -> x.bank(0, 1));
        Checks.illegal("new: offer(0, 1, 1)", () -> x.offer(0, 1, 1));
        Checks.untimely("new: accept()", () -> x.accept());
        Checks.untimely("new: buy()", () -> x.buy());
        Checks.untimely("new: play(0, 0, 0)", () -> x.play(0, 0, 0));
        Checks.untimely("new: pass()", () -> x.pass());
        Checks.untimely("new: undo()", () -> x.undo());
    }

    private static void newDeck() {
        HexIsland x = Scenes.farms();
        x.players(2, 12);
        Scenes.settle(x, 12, 19, 34, 50, 41, 60, 24, 28);
        Scenes.sixes(x, 14);
        x.roll(6);
        for (int left = 15; left >= 2; left--) {
            Checks.due("new deck: buy()", x.buy(), left);
        }
        x.pass();
        Scenes.turns(x, 6);
        x.roll(6);
        Checks.due("new deck: buy()", x.buy(), 1);
        Checks.due("new deck: buy()", x.buy(), 0);
        Scenes.dueHand("new deck: goods enough", x, 0, 17, 17, 1, 2, 2);
        Checks.untimely("new deck: buy()", () -> x.buy());
        Checks.due("new deck: cards(0, 0)", x.cards(0, 0), 16);
    }

    private static void newHexes() {
        HexIsland x = new HexIsland();
        x.players(2, 3);
        Scenes.settle(x, 12, 19, 34, 50, 41, 60, 24, 28);
        for (int player = 0; player < 2; player++) {
            Scenes.dueHand("all barren", x, player, 0, 0, 0, 0, 0);
            for (int good = 0; good < 5; good++) {
                Checks.due("all barren: forecast", x.forecast(player, good, 1), 0);
            }
        }
        for (int number = 2; number <= 12; number++) {
            Checks.due("all barren: roll(" + number + ")", x.roll(number), 0);
            if (number == 7) {
                x.block(1, -1, 0);
            }
            x.pass();
        }
    }

    private static void hexTakes() {
        for (int number = 2; number <= 12; number++) {
            if (number != 7) {
                HexIsland x = new HexIsland();
                x.hex(18, 0, 12);
                x.hex(18, number % 5, number);
                x.players(2, 3);
                x.place(Scenes.HUT, 53);
                int ways = number < 7 ? number - 1 : 13 - number;
                Checks.due("hex(18, .., " + number + "): forecast", x.forecast(0, number % 5, 1), ways);
            }
        }
        HexIsland x = Scenes.island(0, 4, 6);
        x.hex(0, 5, 0);
        x.players(2, 3);
        x.place(Scenes.HUT, 0);
        Checks.due("hex(0, 5, 0): forecast", x.forecast(0, 4, 1), 0);
    }

    private static void hexRefuses() {
        HexIsland x = Scenes.island(0, 0, 6);
        int[][] wrong = {{-1, 0, 6}, {19, 0, 6}, {0, -1, 6}, {0, 6, 6}, {0, 6, 0}, {0, 5, 6}, {0, 5, 7}, {0, 0, 0},
            {0, 4, 0}, {0, 0, 1}, {0, 0, 7}, {0, 0, 13}, {0, -1, 0}, {Integer.MAX_VALUE, 0, 6}, {Integer.MIN_VALUE, 0, 6}};
        for (int[] w : wrong) {
            Checks.illegal("hex(" + w[0] + ", " + w[1] + ", " + w[2] + ")", () -> x.hex(w[0], w[1], w[2]));
        }
        x.players(2, 3);
        x.place(Scenes.HUT, 0);
        Checks.due("hex stays: forecast", x.forecast(0, 0, 1), 5);
    }

    private static void portTakes() {
        HexIsland x = new HexIsland();
        int[] edges = {0, 3, 9, 22, 38, 53, 65, 69, 66};
        for (int k = 0; k < 9; k++) {
            Checks.due("port(" + edges[k] + ", " + k % 6 + ")", x.port(edges[k], k % 6), k + 1);
        }
        Checks.untimely("the tenth port", () -> x.port(33, 0));
        Checks.untimely("the tenth port, no such edge", () -> x.port(72, 0));
        Checks.untimely("the tenth port, no shore", () -> x.port(30, 0));
    }

    private static void portRefuses() {
        HexIsland x = new HexIsland();
        Checks.illegal("port(-1, 0)", () -> x.port(-1, 0));
        Checks.illegal("port(72, 0)", () -> x.port(72, 0));
        Checks.illegal("port(0, -1)", () -> x.port(0, -1));
        Checks.illegal("port(0, 6)", () -> x.port(0, 6));
        Checks.illegal("port(30, 6)", () -> x.port(30, 6));
        Checks.misplaced("port(30, 5)", () -> x.port(30, 5));
        Checks.misplaced("port(7, 5)", () -> x.port(7, 5));
        Checks.due("port(2, 5)", x.port(2, 5), 1);
        Checks.misplaced("port(2, 5) again", () -> x.port(2, 5));
        Checks.misplaced("port(1, 5), whose greater corner has one", () -> x.port(1, 5));
        Checks.misplaced("port(3, 5), whose less corner has one", () -> x.port(3, 5));
        Checks.due("port(4, 0)", x.port(4, 0), 2);
    }

    private static void deckInOrder() {
        long kinds = 0;
        for (int k = 15; k >= 0; k--) {
            kinds = kinds << 3 | k % 8;
        }
        HexIsland x = Scenes.farmsOfTwo(12, kinds | 0xFFFFL << 48);
        Scenes.sixes(x, 10);
        int[] bought = new int[5];
        x.roll(6);
        for (int k = 0; k < 16; k++) {
            if (k == 8) {
                x.pass();
                Scenes.sixes(x, 9);
                x.roll(6);
            }
            int kind = k % 8 > 4 ? 4 : k % 8;
            bought[kind]++;
            Checks.due("deck: buy()", x.buy(), 15 - k);
            Checks.due("deck: cards(0, " + kind + ")", x.cards(0, kind), bought[kind]);
        }
        Checks.due("deck: points(0)", x.points(0), 10);
    }

    private static void deckAnew() {
        HexIsland x = Scenes.farms();
        x.deck(new Random(1).nextLong());
        x.deck(3);
        x.players(2, 12);
        Scenes.settle(x, 12, 19, 34, 50, 41, 60, 24, 28);
        x.roll(6);
        x.buy();
        Checks.due("deck again: cards(0, 3)", x.cards(0, 3), 1);
    }

    private static void playersTakes() {
        for (int n = 2; n <= 4; n++) {
            HexIsland x = new HexIsland();
            x.players(n, n == 2 ? 3 : 12);
            Scenes.dueStand("players(" + n + ")", x, 1, 0);
            Checks.due("points of the last", x.points(n - 1), 0);
            int last = n;
            Checks.outside("points(" + n + ")", () -> x.points(last));
        }
    }

    private static void playersRefuses() {
        HexIsland x = new HexIsland();
        int[][] wrong = {{1, 3}, {5, 3}, {0, 3}, {-2, 3}, {2, 2}, {2, 13}, {4, 0}, {4, -5}, {Integer.MAX_VALUE, 3}};
        for (int[] w : wrong) {
            Checks.illegal("players(" + w[0] + ", " + w[1] + ")", () -> x.players(w[0], w[1]));
        }
        Scenes.dueStand("players refused", x, 0, -1);
    }

    private static void firstBarrenIsBlocked() {
        int[] all = new int[57];
        for (int h = 0; h < 19; h++) {
            all[3 * h] = h;
            all[3 * h + 1] = h == 7 || h == 11 ? 5 : h % 5;
            all[3 * h + 2] = h == 7 || h == 11 ? 0 : 8;
        }
        HexIsland two = rolledSeven(Scenes.island(all));
        Checks.illegal("two barren: block(7, -1, 0)", () -> two.block(7, -1, 0));
        Checks.due("two barren: block(11, -1, 0)", two.block(11, -1, 0), -1);
        HexIsland none = Scenes.island(all);
        none.hex(7, 0, 8);
        none.hex(11, 0, 8);
        rolledSeven(none);
        Checks.due("none barren: block(7, -1, 0)", none.block(7, -1, 0), -1);
        HexIsland every = rolledSeven(new HexIsland());
        Checks.illegal("all barren: block(0, -1, 0)", () -> every.block(0, -1, 0));
        Checks.due("all barren: block(7, -1, 0)", every.block(7, -1, 0), -1);
    }

    /** Huts lie beside the hexes 0, 2, 16 and 18 alone. */
    private static HexIsland rolledSeven(HexIsland x) {
        x.players(2, 3);
        Scenes.settle(x, 0, 0, 2, 5, 53, 71, 51, 66);
        x.roll(7);
        return x;
    }

    private static void layoutEnds() {
        HexIsland x = new HexIsland();
        x.players(2, 5);
        Checks.untimely("hex behind players", () -> x.hex(0, 0, 6));
        Checks.untimely("hex behind players, no such hex", () -> x.hex(19, 0, 6));
        Checks.untimely("port behind players", () -> x.port(0, 0));
        Checks.untimely("port behind players, no such edge", () -> x.port(-1, 0));
        Checks.untimely("deck behind players", () -> x.deck(0));
        Checks.untimely("players behind players", () -> x.players(2, 5));
        Checks.untimely("players behind players, no such number", () -> x.players(9, 5));
        Checks.untimely("undo of players", () -> x.undo());
    }
}
