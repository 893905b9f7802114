/** Promises 20, 21 and 25 to 27: goods, cards, owner, legal and forecast. */
public final class AskTest {
    private static final int WOOD = Scenes.WOOD;
    private static final int ROAD = Scenes.ROAD;
    private static final int HUT = Scenes.HUT;
    private static final int TOWN = Scenes.TOWN;
    private static final int MOST = Integer.MAX_VALUE;
    private static final int LEAST = Integer.MIN_VALUE;

    public static void main(String[] args) {
        goodsTells();
        goodsFirstToLast();
        nineteenOfEachGood();
        cardsFirstToLast();
        ownerTells();
        ownerFirstToLast();
        ownerOfTownsOfEachPlayer();
        legalInOrder();
        legalFirstToLast();
        legalIsWhatPlaceTakes();
        forecastTells();
        forecastOfEachNumber();
        forecastIgnoresWhatIsThere();
        forecastOfRolls();
        forecastRefuses();
        Checks.end();
    }

    private static void goodsTells() {
        Checks.sentence("How many of a good a player has, the bank with player NONE");
        HexIsland x = Scenes.farmsOfTwo();
        Checks.due("goods(-1, 0)", x.goods(-1, 0), 19);
        Checks.due("goods(-1, 4)", x.goods(-1, 4), 17);
        Checks.due("goods(1, 4)", x.goods(1, 4), 1);
        int[][] none = {{-2, 0}, {2, 0}, {4, 0}, {0, -1}, {0, 5}, {-1, -1}, {-1, 5}, {LEAST, 0}, {0, MOST}};
        for (int[] w : none) {
            Checks.outside("goods(" + w[0] + ", " + w[1] + ")", () -> x.goods(w[0], w[1]));
        }
    }

    private static void goodsFirstToLast() {
        Checks.sentence("goods: IndexOutOfBoundsException when there is no such player or good");
        for (int n = 2; n <= 4; n++) {
            HexIsland x = new HexIsland();
            x.players(n, 3);
            for (int player = -2; player <= 5; player++) {
                for (int good = -1; good <= 5; good++) {
                    int p = player;
                    int g = good;
                    String call = n + " players: goods(" + player + ", " + good + ")";
                    if (player < -1 || player >= n || good < 0 || good > 4) {
                        Checks.outside(call, () -> x.goods(p, g));
                    } else {
                        Checks.due(call, x.goods(player, good), player == -1 ? 19 : 0);
                    }
                }
            }
        }
    }

    /** A game with all calls that move goods; after each of them all goods are counted. */
    private static void nineteenOfEachGood() {
        Checks.sentence("There are 19 of each good, in the BANK at first or in players' HANDS");
        HexIsland x = Scenes.farms();
        x.deck(03210);
        dueNineteen("layout", x, 0);
        x.players(2, 12);
        dueNineteen("players", x, 2);
        Scenes.settle(x, 12, 19, 34, 50, 41, 60, 24, 28);
        dueNineteen("set-up", x, 2);
        Scenes.turns(x, 6, 8, 6, 8, 6, 8);
        dueNineteen("rolls", x, 2);
        x.roll(6);
        x.place(TOWN, 12);
        dueNineteen("place(2, 12)", x, 2);
        x.place(ROAD, 26);
        x.place(HUT, 23);
        dueNineteen("place(1, 23)", x, 2);
        x.buy();
        dueNineteen("buy()", x, 2);
        x.pass();
        Scenes.sixes(x, 7);
        dueNineteen("rolls of what there is", x, 2);
        x.roll(7);
        while (x.phase() == 4) {
            for (int k = 0; k < 10 && x.phase() == 4; k++) {
                int player = k / 5;
                int good = k % 5;
                Look.outcome(() -> x.give(player, good));
            }
        }
        dueNineteen("give", x, 2);
        x.block(8, 1, 3);
        dueNineteen("block", x, 2);
        x.offer(1, 1, 1 << 16);
        x.accept();
        dueNineteen("accept()", x, 2);
        x.bank(WOOD, 1);
        dueNineteen("bank(0, 1)", x, 2);
        x.undo();
        dueNineteen("undo()", x, 2);
    }

    private static void dueNineteen(String when, HexIsland x, int players) {
        for (int good = 0; good < 5; good++) {
            int all = x.goods(-1, good);
            for (int player = 0; player < players; player++) {
                all += x.goods(player, good);
            }
            Checks.due(when + ": all of good " + good, all, 19);
        }
    }

    private static void cardsFirstToLast() {
        Checks.sentence("cards: IndexOutOfBoundsException when there is no such player or kind");
        for (int n = 2; n <= 4; n++) {
            HexIsland x = new HexIsland();
            x.players(n, 3);
            for (int player = -1; player <= 5; player++) {
                for (int kind = -1; kind <= 5; kind++) {
                    int p = player;
                    int k = kind;
                    String call = n + " players: cards(" + player + ", " + kind + ")";
                    if (player < 0 || player >= n || kind < 0 || kind > 4) {
                        Checks.outside(call, () -> x.cards(p, k));
                    } else {
                        Checks.due(call, x.cards(player, kind), 0);
                    }
                }
            }
        }
    }

    private static void ownerTells() {
        Checks.sentence("What is on an edge (kind 0) or corner (1): the player, 8 more for a town; NONE for nothing");
        HexIsland x = Scenes.farmsOfTwo();
        Checks.due("owner(0, 19)", x.owner(0, 19), 0);
        Checks.due("owner(0, 60)", x.owner(0, 60), 1);
        Checks.due("owner(1, 12)", x.owner(1, 12), 0);
        Checks.due("owner(1, 41)", x.owner(1, 41), 1);
        Checks.due("owner(0, 71)", x.owner(0, 71), -1);
        Checks.due("owner(1, 53)", x.owner(1, 53), -1);
        Scenes.turns(x, 8, 8, 8);
        x.roll(2);
        x.place(TOWN, 34);
        Checks.due("owner(1, 34)", x.owner(1, 34), 9);
        int[][] none = {{-1, 0}, {2, 0}, {0, -1}, {0, 72}, {1, -1}, {1, 54}, {Integer.MAX_VALUE, 12}};
        for (int[] w : none) {
            Checks.outside("owner(" + w[0] + ", " + w[1] + ")", () -> x.owner(w[0], w[1]));
        }
    }

    private static void ownerFirstToLast() {
        Checks.sentence("owner: IndexOutOfBoundsException when there is no such kind or spot");
        HexIsland x = new HexIsland();
        x.players(2, 3);
        Scenes.settle(x, 0, 0, 53, 71);
        Checks.due("the first edge: owner(0, 0)", x.owner(0, 0), 0);
        Checks.due("the last edge: owner(0, 71)", x.owner(0, 71), 1);
        Checks.due("the first corner: owner(1, 0)", x.owner(1, 0), 0);
        Checks.due("the last corner: owner(1, 53)", x.owner(1, 53), 1);
        Checks.outside("owner(0, -1)", () -> x.owner(0, -1));
        Checks.outside("owner(0, 72)", () -> x.owner(0, 72));
        Checks.outside("owner(1, -1)", () -> x.owner(1, -1));
        Checks.outside("owner(1, 54)", () -> x.owner(1, 54));
        Checks.outside("owner(-1, 0)", () -> x.owner(-1, 0));
        Checks.outside("owner(2, 0)", () -> x.owner(2, 0));
    }

    private static void ownerOfTownsOfEachPlayer() {
        Checks.sentence("owner: the player, 8 more for a town");
        HexIsland x = Scenes.island(9, Scenes.CORN, 6, 14, Scenes.ORE, 6);
        x.players(4, 12);
        Scenes.settle(x, 35, 43, 0, 0, 2, 4, 53, 71, 51, 66, 21, 33, 26, 38, 12, 19);
        Scenes.sixes(x, 8);
        x.roll(2);
        Checks.due("player 0 has a hut: owner(1, 35)", x.owner(1, 35), 0);
        x.place(TOWN, 35);
        Checks.due("player 0 has a town: owner(1, 35)", x.owner(1, 35), 8);
        x.offer(3, Scenes.bundle(0, 0, 0, 2, 3), 0);
        x.accept();
        x.pass();
        Scenes.turns(x, 2, 2);
        x.roll(2);
        Checks.due("player 3 has a road: owner(0, 71)", x.owner(0, 71), 3);
        Checks.due("player 3 has a hut: owner(1, 53)", x.owner(1, 53), 3);
        x.place(TOWN, 53);
        Checks.due("player 3 has a town: owner(1, 53)", x.owner(1, 53), 11);
    }

    private static void legalInOrder() {
        Checks.sentence("Of all that place would take now the i-th (from 0), by kind, then spot: 100 * kind + spot");
        HexIsland x = Scenes.sixes(Scenes.farmsOfTwo(), 2);
        Scenes.dueLegal("phase 3", x);
        x.roll(6);
        Scenes.dueLegal("all goods", x, 11, 12, 20, 25, 26, 27, 29, 36, 212, 224);
        x.place(ROAD, 26);
        Scenes.dueLegal("a road on", x, 11, 12, 20, 25, 27, 29, 35, 36, 123, 212, 224);
        x.place(TOWN, 12);
        Scenes.dueLegal("no ore", x, 11, 12, 20, 25, 27, 29, 35, 36, 123);
        x.place(HUT, 23);
        Scenes.dueLegal("a hut on", x, 11, 12, 20, 25, 27, 29, 35, 36);
        x.place(ROAD, 27);
        Scenes.dueLegal("no goods", x);
        Checks.due("legal(-1)", x.legal(-1), -1);
        HexIsland y = new HexIsland();
        y.players(2, 3);
        Checks.due("phase 1: legal(0)", y.legal(0), 100);
        Checks.due("phase 1: legal(53)", y.legal(53), 153);
        Checks.due("phase 1: legal(54)", y.legal(54), -1);
        Checks.due("phase 1: legal(-1)", y.legal(-1), -1);
        Checks.due("phase 1: legal(least)", y.legal(Integer.MIN_VALUE), -1);
        Checks.due("phase 1: legal(most)", y.legal(Integer.MAX_VALUE), -1);
    }

    private static void legalFirstToLast() {
        Checks.sentence("legal: NONE when there are not so many, or i is below 0");
        HexIsland x = new HexIsland();
        Checks.due("layout: legal(0)", x.legal(0), -1);
        x.players(2, 3);
        Checks.due("phase 1: legal(-1)", x.legal(-1), -1);
        Checks.due("phase 1: legal(0)", x.legal(0), 100);
        Checks.due("phase 1: legal(53)", x.legal(53), 153);
        Checks.due("phase 1: legal(54)", x.legal(54), -1);
        Checks.due("phase 1: legal(least)", x.legal(LEAST), -1);
        Checks.due("phase 1: legal(most)", x.legal(MOST), -1);
        x.place(HUT, 53);
        Checks.due("phase 2: legal(-1)", x.legal(-1), -1);
        Checks.due("phase 2: legal(0)", x.legal(0), 70);
        Checks.due("phase 2: legal(1)", x.legal(1), 71);
        Checks.due("phase 2: legal(2)", x.legal(2), -1);
        for (int phase : new int[] {0, 3, 4, 5, 8}) {
            Checks.due("phase " + phase + ": legal(0)", Phases.make(phase).legal(0), -1);
        }
    }

    private static void legalIsWhatPlaceTakes() {
        Checks.sentence("legal: Of all that place would take now");
        for (int phase = 0; phase <= 8; phase++) {
            HexIsland x = Phases.make(phase);
            int i = 0;
            for (int kind = 0; kind < 3; kind++) {
                for (int spot = 0; spot < (kind == 0 ? 72 : 54); spot++) {
                    int k = kind;
                    int s = spot;
                    HexIsland y = Phases.make(phase);
                    if (!Look.outcome(() -> y.place(k, s)).startsWith("throws")) {
                        Checks.due("phase " + phase + ": legal(" + i + ")", x.legal(i), 100 * kind + spot);
                        i++;
                    }
                }
            }
            Checks.due("phase " + phase + ": legal(" + i + ")", x.legal(i), -1);
        }
    }

    private static void forecastTells() {
        Checks.sentence("The mean of all that a player gets of a good in so many rolls together, times 36 to the power"
            + " of rolls");
        HexIsland x = Scenes.farmsOfTwo();
        Checks.due("forecast(0, 0, 1)", x.forecast(0, 0, 1), 5);
        Checks.due("forecast(0, 0, 2)", x.forecast(0, 0, 2), 360);
        Checks.due("forecast(0, 0, 3)", x.forecast(0, 0, 3), 19440);
        Checks.due("forecast(1, 4, 3)", x.forecast(1, 4, 3), 19440);
        Scenes.turns(x, 6, 6);
        x.roll(2);
        x.place(Scenes.TOWN, 12);
        Checks.due("a town: forecast(0, 0, 1)", x.forecast(0, 0, 1), 10);
        Checks.due("a town: forecast(0, 0, 2)", x.forecast(0, 0, 2), 720);
        Checks.due("a town: forecast(0, 4, 1)", x.forecast(0, 4, 1), 5);
        HexIsland y = Scenes.island(0, WOOD, 2, 3, WOOD, 10, 4, WOOD, 12, 8, WOOD, 6);
        y.players(2, 3);
        Scenes.settle(y, 12, 19, 23, 35);
        Checks.due("three hexes: forecast(0, 0, 1)", y.forecast(0, 0, 1), 5);
        Checks.due("two hexes: forecast(1, 0, 1)", y.forecast(1, 0, 1), 6);
        Scenes.settle(y, 30, 44, 22, 34);
        Checks.due("five hexes: forecast(0, 0, 3)", y.forecast(0, 0, 3), 3 * 13 * 1296);
    }

    private static void forecastOfEachNumber() {
        Checks.sentence("36 rolls of two dice: 2 and 12 come once, 3 and 11 twice .. 7 six times");
        int[] ways = {0, 0, 1, 2, 3, 4, 5, 0, 5, 4, 3, 2, 1};
        for (int number = 2; number <= 12; number++) {
            if (number != 7) {
                HexIsland x = Scenes.island(0, WOOD, number);
                x.players(2, 3);
                x.place(HUT, 0);
                Checks.due("a hex of " + number + ": forecast(0, 0, 1)", x.forecast(0, WOOD, 1), ways[number]);
                Checks.due("a hex of " + number + ": forecast(0, 0, 2)", x.forecast(0, WOOD, 2), 72 * ways[number]);
                Checks.due("a hex of " + number + ": forecast(0, 0, 3)", x.forecast(0, WOOD, 3), 3888 * ways[number]);
                Checks.due("a hex of " + number + ": forecast(1, 0, 1)", x.forecast(1, WOOD, 1), 0);
            }
        }
    }

    private static void forecastIgnoresWhatIsThere() {
        Checks.sentence("forecast: when hands, blocked hex and buildings stay, 7 brings nothing and the bank never"
            + " lacks any");
        HexIsland x = Scenes.sixes(Scenes.farmsOfTwo(), 20);
        Checks.due("the bank is empty: goods(-1, 0)", x.goods(-1, WOOD), 0);
        Checks.due("the bank is empty: forecast(0, 0, 1)", x.forecast(0, WOOD, 1), 5);
        Checks.due("many goods in the hand: forecast(0, 0, 3)", x.forecast(0, WOOD, 3), 19440);
        HexIsland y = Scenes.farmsOfTwo();
        y.roll(7);
        y.block(0, -1, 0);
        Checks.due("the hex is blocked: forecast(0, 0, 3)", y.forecast(0, WOOD, 3), 0);
        Checks.due("another hex is not: forecast(0, 1, 3)", y.forecast(0, 1, 3), 19440);
    }

    private static void forecastOfRolls() {
        Checks.sentence("forecast: IllegalArgumentException when rolls is not 1 .. 3");
        HexIsland x = Scenes.farmsOfTwo();
        Checks.illegal("forecast(0, 0, 0)", () -> x.forecast(0, 0, 0));
        Checks.due("forecast(0, 0, 1)", x.forecast(0, 0, 1), 5);
        Checks.due("forecast(0, 0, 3)", x.forecast(0, 0, 3), 19440);
        Checks.illegal("forecast(0, 0, 4)", () -> x.forecast(0, 0, 4));
        Checks.sentence("forecast: IndexOutOfBoundsException when there is no such player or good");
        Checks.outside("forecast(-1, 0, 4)", () -> x.forecast(-1, 0, 4));
        Checks.outside("forecast(2, 0, 0)", () -> x.forecast(2, 0, 0));
        Checks.outside("forecast(0, -1, 4)", () -> x.forecast(0, -1, 4));
        Checks.outside("forecast(0, 5, 0)", () -> x.forecast(0, 5, 0));
        Checks.due("forecast(1, 4, 1)", x.forecast(1, 4, 1), 5);
    }

    private static void forecastRefuses() {
        Checks.sentence("forecast: IndexOutOfBoundsException when there is no such player or good;"
            + " IllegalArgumentException when rolls is not 1 .. 3");
        HexIsland x = Scenes.farmsOfTwo();
        int[][] none = {{-1, 0, 1}, {2, 0, 1}, {0, -1, 1}, {0, 5, 1}, {-1, 0, 0}, {0, 5, 4}};
        for (int[] w : none) {
            Checks.outside("forecast(" + w[0] + ", " + w[1] + ", " + w[2] + ")", () -> x.forecast(w[0], w[1], w[2]));
        }
        for (int rolls : new int[] {0, 4, -1, LEAST, MOST}) {
            Checks.illegal("forecast(0, 0, " + rolls + ")", () -> x.forecast(0, 0, rolls));
        }
    }
}
