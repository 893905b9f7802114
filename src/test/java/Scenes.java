/**
 * Islands and games that the tests begin with.
 *
 * <p>The farms: a 6 brings player 0 one of each good and no other player any, an 8 the same for
 * player 1, and a 9 a wood and a clay to player 2; a 2 brings nobody any.
 */
final class Scenes {
    static final int ROAD = 0;
    static final int HUT = 1;
    static final int TOWN = 2;
    static final int WOOD = 0;
    static final int CLAY = 1;
    static final int WOOL = 2;
    static final int CORN = 3;
    static final int ORE = 4;
    static final int NONE = HexIsland.NONE;

    private static final int[] FARMS = {
        0, WOOD, 6, 3, CLAY, 6, 4, WOOL, 6, 5, CORN, 6, 9, ORE, 6,
        8, WOOD, 8, 12, CLAY, 8, 13, WOOL, 8, 14, CORN, 8, 15, ORE, 8,
        6, WOOD, 9, 11, CLAY, 9
    };

    private Scenes() {
    }

    /** Hex, good and number, again and again. */
    static HexIsland island(int... hexes) {
        HexIsland x = new HexIsland();
        for (int k = 0; k < hexes.length; k += 3) {
            x.hex(hexes[k], hexes[k + 1], hexes[k + 2]);
        }
        return x;
    }

    static HexIsland farms() {
        return island(FARMS);
    }

    /** Sets huts and roads in turn: a corner and an edge, again and again. */
    static HexIsland settle(HexIsland x, int... spots) {
        for (int k = 0; k < spots.length; k++) {
            x.place(k % 2 == 0 ? HUT : ROAD, spots[k]);
        }
        return x;
    }

    /** Player 0 is to roll; both have a corn and an ore. The hexes 1, 2, 7, 10 and 16 to 18 are barren, 1 is blocked. */
    static HexIsland farmsOfTwo(int target, long deck) {
        HexIsland x = farms();
        x.deck(deck);
        x.players(2, target);
        return settle(x, 12, 19, 34, 50, 41, 60, 24, 28);
    }

    static HexIsland farmsOfTwo() {
        return farmsOfTwo(12, 0);
    }

    static HexIsland farmsOfThree() {
        HexIsland x = farms();
        x.players(3, 12);
        return settle(x, 12, 19, 34, 50, 25, 31, 2, 5, 41, 60, 24, 28);
    }

    /** Rolls each number in a turn of its own. */
    static HexIsland turns(HexIsland x, int... numbers) {
        for (int number : numbers) {
            x.roll(number);
            x.pass();
        }
        return x;
    }

    static HexIsland sixes(HexIsland x, int times) {
        for (int k = 0; k < times; k++) {
            turns(x, 6);
        }
        return x;
    }

    static HexIsland roads(HexIsland x, int... edges) {
        for (int edge : edges) {
            x.place(ROAD, edge);
        }
        return x;
    }

    /** The player on turn gives player 0, or 1 for player 0, all goods but the hand. */
    static HexIsland keep(HexIsland x, int... hand) {
        int[] gift = new int[5];
        for (int good = 0; good < 5; good++) {
            gift[good] = x.goods(x.turn(), good) - hand[good];
        }
        x.offer(x.turn() == 0 ? 1 : 0, bundle(gift[0], gift[1], gift[2], gift[3], gift[4]), 0);
        x.accept();
        dueHand("with a hand", x, x.turn(), hand);
        return x;
    }

    static HexIsland passed(HexIsland x) {
        x.pass();
        return x;
    }

    static HexIsland rolled(HexIsland x, int number) {
        x.roll(number);
        return x;
    }

    /** For each good four bits. */
    static int bundle(int wood, int clay, int wool, int corn, int ore) {
        return wood | clay << 4 | wool << 8 | corn << 12 | ore << 16;
    }

    static void dueHand(String when, HexIsland x, int player, int... hand) {
        for (int good = 0; good < 5; good++) {
            Checks.due(when + ": goods(" + player + ", " + good + ")", x.goods(player, good), hand[good]);
        }
    }

    static void dueStand(String when, HexIsland x, int phase, int turn) {
        Checks.due(when + ": phase()", x.phase(), phase);
        Checks.due(when + ": turn()", x.turn(), turn);
    }

    /** All that may be placed now, and nothing behind it. */
    static void dueLegal(String when, HexIsland x, int... legal) {
        for (int i = 0; i < legal.length; i++) {
            Checks.due(when + ": legal(" + i + ")", x.legal(i), legal[i]);
        }
        Checks.due(when + ": legal(" + legal.length + ")", x.legal(legal.length), NONE);
    }
}
