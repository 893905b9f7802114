/** Promise 6: place, and where roads, huts and towns may be; what it refuses by phase is in RefusalTest. */
public final class PlaceTest {
    private static final int ROAD = Scenes.ROAD;
    private static final int HUT = Scenes.HUT;
    private static final int TOWN = Scenes.TOWN;

    public static void main(String[] args) {
        setUpOrder();
        setUpIsForNothing();
        setUpHutsNeedNoRoad();
        setUpRoadsLieAtTheirHut();
        secondHutBrings();
        secondHutBringsOfEachHex();
        spotsFirstToLast();
        placeAnswersPoints();
        pricesAreExact();
        roadOnAFreeEdge();
        roadAtAHutOrTown();
        roadAtARoad();
        roadNotThroughAnothersHutOrTown();
        hutOnAFreeCorner();
        hutWithoutNeighbours();
        hutAtARoad();
        townsTakeHuts();
        fifteenRoads();
        fiveHuts();
        fourTowns();
        piecesOfEachPlayer();
        Checks.end();
    }

    private static void setUpOrder() {
        Checks.sentence("In the set-up players 0 .. n - 1, then n - 1 .. 0, each set a hut, and a road at it");
        int[] spots = {0, 0, 1, 2, 2, 4, 51, 66, 52, 68, 53, 70, 21, 33, 26, 38};
        for (int n = 2; n <= 4; n++) {
            HexIsland x = new HexIsland();
            x.players(n, 3);
            for (int k = 0; k < 2 * n; k++) {
                int player = k < n ? k : 2 * n - 1 - k;
                Scenes.dueStand(n + " players, hut " + k, x, 1, player);
                Checks.due("set-up: place hut", x.place(HUT, spots[2 * k]), k < n ? 1 : 2);
                Scenes.dueStand(n + " players, road " + k, x, 2, player);
                Checks.due("set-up: place road", x.place(ROAD, spots[2 * k + 1]), k < n ? 1 : 2);
                Checks.due("set-up: owner of the hut", x.owner(1, spots[2 * k]), player);
                Checks.due("set-up: owner of the road", x.owner(0, spots[2 * k + 1]), player);
            }
            Checks.sentence("Then player 0 rolls");
            Scenes.dueStand(n + " players, set up", x, 3, 0);
            Checks.due("set up: legal(0)", x.legal(0), -1);
            Checks.due("set up: roll(2)", x.roll(2), 0);
        }
    }

    private static void setUpIsForNothing() {
        Checks.sentence("each set a hut, and a road at it, for nothing");
        HexIsland x = new HexIsland();
        x.players(2, 12);
        Scenes.settle(x, 12, 19, 34, 50, 41, 60, 24, 28);
        for (int player = 0; player < 2; player++) {
            Scenes.dueHand("set up on a barren island", x, player, 0, 0, 0, 0, 0);
        }
        Scenes.dueHand("set up on a barren island", x, -1, 19, 19, 19, 19, 19);
    }

    private static void setUpHutsNeedNoRoad() {
        Checks.sentence("A hut on a free corner with no hut or town on any neighbour, and a road of the player at it"
            + " (but in the set-up)");
        HexIsland x = Scenes.farms();
        x.players(2, 3);
        Checks.due("phase 1: place(1, 12)", x.place(HUT, 12), 1);
        x.place(ROAD, 19);
        Checks.misplaced("phase 1: place(1, 12), a hut there", () -> x.place(HUT, 12));
        Checks.misplaced("phase 1: place(1, 7), a neighbour", () -> x.place(HUT, 7));
        Checks.misplaced("phase 1: place(1, 8), a neighbour", () -> x.place(HUT, 8));
        Checks.misplaced("phase 1: place(1, 17), a neighbour", () -> x.place(HUT, 17));
        Checks.due("phase 1: place(1, 22), two edges away", x.place(HUT, 22), 1);
    }

    private static void setUpRoadsLieAtTheirHut() {
        Checks.sentence("place: (in phase 2: it is not at the hut that was just set, or not free)");
        HexIsland x = Scenes.farms();
        x.players(2, 3);
        x.place(HUT, 12);
        Checks.misplaced("phase 2: place(0, 6)", () -> x.place(ROAD, 6));
        Scenes.dueLegal("phase 2", x, 11, 12, 19);
        x.place(ROAD, 19);
        Scenes.settle(x, 22, 34);
        x.place(HUT, 41);
        Checks.misplaced("phase 2, at the hut before: place(0, 24)", () -> x.place(ROAD, 24));
        Checks.misplaced("phase 2, not free: place(0, 34)", () -> x.place(ROAD, 34));
        Scenes.dueLegal("phase 2, second hut", x, 52, 59, 60);
    }

    private static void secondHutBrings() {
        Checks.sentence("for the second hut the player gets one good of each hex beside it that bears any");
        HexIsland x = Scenes.farms();
        x.hex(10, Scenes.CORN, 12);
        x.players(2, 12);
        Scenes.settle(x, 12, 19, 34, 50);
        Scenes.dueHand("first huts", x, 0, 0, 0, 0, 0, 0);
        Scenes.dueHand("first huts", x, 1, 0, 0, 0, 0, 0);
        x.place(HUT, 41);
        Scenes.dueHand("second hut", x, 1, 0, 0, 0, 1, 1);
        x.place(ROAD, 60);
        Scenes.dueHand("second road", x, 1, 0, 0, 0, 1, 1);
        Scenes.settle(x, 24, 28);
        Scenes.dueHand("second hut", x, 0, 0, 0, 0, 2, 1);
        Scenes.dueHand("second huts", x, -1, 19, 19, 19, 16, 17);
    }

    private static void secondHutBringsOfEachHex() {
        Checks.sentence("one good of each hex beside it that bears any");
        HexIsland x = Scenes.island(0, Scenes.WOOL, 2, 3, Scenes.WOOL, 12, 4, Scenes.WOOL, 6);
        x.players(4, 12);
        Scenes.settle(x, 53, 71, 51, 66, 46, 65, 38, 54);
        x.place(HUT, 26);
        Scenes.dueHand("a barren hex alone", x, 3, 0, 0, 0, 0, 0);
        x.place(ROAD, 38);
        x.place(HUT, 0);
        Scenes.dueHand("one hex alone", x, 2, 0, 0, 1, 0, 0);
        x.place(ROAD, 0);
        x.place(HUT, 13);
        Scenes.dueHand("two barren hexes and one", x, 1, 0, 0, 1, 0, 0);
        x.place(ROAD, 20);
        x.place(HUT, 12);
        Scenes.dueHand("three hexes of one good", x, 0, 0, 0, 3, 0, 0);
        Scenes.dueHand("three hexes of one good", x, -1, 19, 19, 14, 19, 19);
    }

    private static void spotsFirstToLast() {
        Checks.sentence("CORNERS 0 .. 53");
        HexIsland x = Scenes.island(0, Scenes.CORN, 6, 18, Scenes.ORE, 6);
        x.players(2, 12);
        Checks.illegal("place(1, -1)", () -> x.place(HUT, -1));
        Checks.illegal("place(1, 54)", () -> x.place(HUT, 54));
        Checks.due("place(1, 0)", x.place(HUT, 0), 1);
        Checks.sentence("Edges 0 .. 71");
        Checks.illegal("place(0, -1)", () -> x.place(ROAD, -1));
        Checks.illegal("place(0, 72)", () -> x.place(ROAD, 72));
        Checks.due("place(0, 0)", x.place(ROAD, 0), 1);
        Scenes.settle(x, 34, 50, 30, 36);
        Checks.due("place(1, 53)", x.place(HUT, 53), 2);
        Checks.due("place(0, 71)", x.place(ROAD, 71), 2);
        Checks.sentence("place: a town (2, on a corner)");
        Scenes.sixes(x, 6);
        x.roll(2);
        Checks.illegal("place(2, -1)", () -> x.place(TOWN, -1));
        Checks.illegal("place(2, 54)", () -> x.place(TOWN, 54));
        Checks.due("place(2, 0)", x.place(TOWN, 0), 3);
        Checks.due("place(2, 53)", x.place(TOWN, 53), 4);
        Checks.sentence("place: IllegalArgumentException when there is no such kind");
        Checks.illegal("place(-1, 0)", () -> x.place(-1, 0));
        Checks.illegal("place(3, 0)", () -> x.place(3, 0));
    }

    private static void placeAnswersPoints() {
        Checks.sentence("place: the player's points then");
        HexIsland x = Scenes.rolled(Scenes.sixes(Scenes.farmsOfTwo(), 8), 6);
        Checks.due("a road: place(0, 26)", x.place(ROAD, 26), 2);
        Checks.due("a hut: place(1, 23)", x.place(HUT, 23), 3);
        Checks.due("a town: place(2, 23)", x.place(TOWN, 23), 4);
        Checks.due("a road: place(0, 27)", x.place(ROAD, 27), 4);
        Checks.due("a road for the award: place(0, 11)", x.place(ROAD, 11), 6);
    }

    /** Player 0 has a road to corner 23, and of the goods just so many. */
    private static HexIsland withHand(int... hand) {
        HexIsland x = Scenes.rolled(Scenes.sixes(Scenes.farmsOfTwo(), 4), 6);
        x.place(ROAD, 26);
        return Scenes.keep(x, hand);
    }

    private static void pricesAreExact() {
        Checks.sentence("Prices: a ROAD wood, clay; a HUT wood, clay, wool, corn; a TOWN two corn, three ore");
        int[][] prices = {{1, 1, 0, 0, 0}, {1, 1, 1, 1, 0}, {0, 0, 0, 2, 3}};
        int[] spots = {25, 23, 12};
        for (int kind = 0; kind < 3; kind++) {
            int k = kind;
            HexIsland x = withHand(prices[kind]);
            int[] banked = new int[5];
            for (int good = 0; good < 5; good++) {
                banked[good] = x.goods(-1, good) + prices[kind][good];
                if (prices[kind][good] > 0) {
                    int[] less = {4, 4, 4, 4, 4};
                    less[good] = prices[kind][good] - 1;
                    HexIsland y = withHand(less);
                    Checks.untimely("one good less: place(" + k + ", " + spots[k] + ")", () -> y.place(k, spots[k]));
                    Checks.due("one good less: owner", y.owner(Math.min(k, 1), spots[k]), k == 2 ? 0 : -1);
                    Scenes.dueHand("one good less", y, 0, less);
                }
            }
            Checks.due("just paid: place(" + kind + ")", x.place(kind, spots[kind]), kind == 0 ? 2 : 3);
            Scenes.dueHand("just paid", x, 0, 0, 0, 0, 0, 0);
            Checks.sentence("What is paid goes to the bank");
            Scenes.dueHand("just paid", x, -1, banked);
        }
    }

    private static void roadOnAFreeEdge() {
        Checks.sentence("A road may be built on a free edge");
        HexIsland x = withHand(4, 4, 0, 0, 0);
        Checks.misplaced("an own road there: place(0, 26)", () -> x.place(ROAD, 26));
        Scenes.roads(x, 35);
        Checks.due("into another's hut: place(0, 42)", x.place(ROAD, 42), 2);
        Scenes.passed(x);
        x.roll(8);
        Checks.misplaced("another's road there, at the own hut: place(0, 42)", () -> x.place(ROAD, 42));
    }

    private static void roadAtAHutOrTown() {
        Checks.sentence("one of whose corners bears a hut or town of the player");
        HexIsland x = withHand(4, 4, 0, 4, 4);
        Checks.misplaced("at another's hut: place(0, 41)", () -> x.place(ROAD, 41));
        Checks.due("at the own hut: place(0, 11)", x.place(ROAD, 11), 2);
        x.place(TOWN, 12);
        Checks.due("at the own town: place(0, 12)", x.place(ROAD, 12), 3);
        Checks.due("at the other own hut: place(0, 29)", x.place(ROAD, 29), 3);
    }

    private static void roadAtARoad() {
        Checks.sentence("or bears none of another one and has another road of the player at it");
        HexIsland x = withHand(4, 4, 0, 0, 0);
        Checks.misplaced("at nothing: place(0, 0)", () -> x.place(ROAD, 0));
        Checks.misplaced("one road too far: place(0, 43)", () -> x.place(ROAD, 43));
        Checks.misplaced("at another's road: place(0, 56)", () -> x.place(ROAD, 56));
        Checks.due("at a road: place(0, 35)", x.place(ROAD, 35), 2);
        Checks.due("at that road: place(0, 43)", x.place(ROAD, 43), 2);
    }

    private static void roadNotThroughAnothersHutOrTown() {
        Checks.sentence("or bears none of another one and has another road of the player at it");
        HexIsland x = Scenes.turns(Scenes.farmsOfTwo(), 6, 8, 6, 8, 6, 8);
        x.roll(2);
        Scenes.roads(x, 36, 44);
        x.pass();
        x.roll(2);
        Scenes.roads(x, 42, 43);
        Checks.due("place(1, 35)", x.place(HUT, 35), 3);
        x.pass();
        x.roll(2);
        Checks.misplaced("through another's hut: place(0, 51)", () -> x.place(ROAD, 51));
        x.pass();
        x.roll(2);
        Checks.due("place(2, 35)", x.place(TOWN, 35), 4);
        x.pass();
        x.roll(2);
        Checks.misplaced("through another's town: place(0, 51)", () -> x.place(ROAD, 51));
        Checks.due("beside it: place(0, 45)", x.place(ROAD, 45), 2);
        Scenes.turns(Scenes.passed(x), 8, 8);
        x.roll(2);
        Checks.due("on from the own town: place(0, 51)", x.place(ROAD, 51), 4);
    }

    private static void hutOnAFreeCorner() {
        Checks.sentence("A hut on a free corner");
        HexIsland x = Scenes.turns(Scenes.farmsOfTwo(), 6, 6, 6, 6, 6, 8, 8, 8);
        x.roll(2);
        Checks.misplaced("an own hut there: place(1, 12)", () -> x.place(HUT, 12));
        Scenes.roads(x, 26, 35, 42);
        Checks.misplaced("another's hut there: place(1, 34)", () -> x.place(HUT, 34));
        x.place(TOWN, 12);
        Checks.misplaced("an own town there: place(1, 12)", () -> x.place(HUT, 12));
        x.pass();
        x.roll(2);
        x.place(TOWN, 34);
        x.pass();
        x.roll(2);
        Checks.misplaced("another's town there: place(1, 34)", () -> x.place(HUT, 34));
        Checks.due("a free corner: place(1, 23)", x.place(HUT, 23), 4);
    }

    private static void hutWithoutNeighbours() {
        Checks.sentence("with no hut or town on any neighbour");
        HexIsland x = Scenes.turns(Scenes.farmsOfTwo(), 6, 6, 6, 6, 6, 8, 8, 8);
        x.roll(2);
        Checks.misplaced("beside the own hut: place(1, 17)", () -> x.place(HUT, 17));
        Scenes.roads(x, 26, 35);
        Checks.misplaced("beside another's hut: place(1, 29)", () -> x.place(HUT, 29));
        x.place(TOWN, 12);
        Checks.misplaced("beside the own town: place(1, 17)", () -> x.place(HUT, 17));
        x.pass();
        x.roll(2);
        x.place(TOWN, 34);
        x.pass();
        x.roll(2);
        Checks.misplaced("beside another's town: place(1, 29)", () -> x.place(HUT, 29));
        Checks.due("beside none: place(1, 23)", x.place(HUT, 23), 4);
        Checks.misplaced("beside two own ones: place(1, 17)", () -> x.place(HUT, 17));
    }

    private static void hutAtARoad() {
        Checks.sentence("and a road of the player at it");
        HexIsland x = Scenes.turns(Scenes.farmsOfTwo(), 6, 6, 6, 8, 8, 8);
        x.roll(2);
        Checks.misplaced("no road: place(1, 23)", () -> x.place(HUT, 23));
        Checks.misplaced("no road far and wide: place(1, 0)", () -> x.place(HUT, 0));
        x.pass();
        x.roll(2);
        Scenes.roads(x, 56);
        x.pass();
        x.roll(2);
        Checks.misplaced("another's road alone: place(1, 44)", () -> x.place(HUT, 44));
        x.place(ROAD, 26);
        Checks.due("an own road: place(1, 23)", x.place(HUT, 23), 3);
        x.pass();
        x.roll(2);
        Checks.due("the other one's own road: place(1, 44)", x.place(HUT, 44), 3);
    }

    private static void townsTakeHuts() {
        Checks.sentence("a town takes the place of a hut of its player");
        HexIsland x = withHand(0, 0, 0, 6, 6);
        Checks.misplaced("another's hut: place(2, 34)", () -> x.place(TOWN, 34));
        Checks.misplaced("no hut: place(2, 23)", () -> x.place(TOWN, 23));
        Checks.due("own hut: place(2, 24)", x.place(TOWN, 24), 3);
        Checks.due("owner(1, 24)", x.owner(1, 24), 8);
        Checks.misplaced("own town: place(2, 24)", () -> x.place(TOWN, 24));
        Scenes.turns(Scenes.passed(x), 8, 8, 8);
        x.roll(2);
        x.pass();
        x.roll(2);
        Checks.misplaced("another's town: place(2, 24)", () -> x.place(TOWN, 24));
        Checks.due("own hut: place(2, 34)", x.place(TOWN, 34), 3);
        Checks.due("owner(1, 34)", x.owner(1, 34), 9);
    }

    private static void fifteenRoads() {
        Checks.sentence("PLAYERS 0 .. n - 1 have at most 15 roads");
        HexIsland x = Scenes.rolled(Scenes.sixes(Scenes.farmsOfTwo(), 14), 6);
        Scenes.roads(x, 11, 12, 6, 0, 10, 18, 23, 24, 33, 26, 27, 29);
        Checks.due("fourteen roads: legal(0)", x.legal(0), 1);
        Checks.due("the fifteenth road: place(0, 25)", x.place(ROAD, 25), 4);
        Scenes.dueHand("fifteen roads", x, 0, 2, 2, 15, 16, 16);
        Checks.untimely("the sixteenth road: place(0, 36)", () -> x.place(ROAD, 36));
        Checks.untimely("the sixteenth road, nor may it be there: place(0, 71)", () -> x.place(ROAD, 71));
        Checks.illegal("the sixteenth road, no such edge: place(0, 72)", () -> x.place(ROAD, 72));
        Checks.due("fifteen roads: legal(0)", x.legal(0), 100);
    }

    /** Player 0 has roads to the corners 3, 22, 23 and 25, and goods for all that comes. */
    private static HexIsland roadsForHuts() {
        HexIsland x = Scenes.rolled(Scenes.sixes(Scenes.farmsOfTwo(), 14), 6);
        return Scenes.roads(x, 26, 11, 6, 29, 30, 25);
    }

    private static void fiveHuts() {
        Checks.sentence("at most 5 huts (a town takes the place of a hut of its player)");
        HexIsland x = roadsForHuts();
        Checks.due("third hut", x.place(HUT, 23), 3);
        Checks.due("fourth hut", x.place(HUT, 3), 4);
        Checks.due("fifth hut", x.place(HUT, 25), 5);
        Checks.untimely("sixth hut: place(1, 22)", () -> x.place(HUT, 22));
        Checks.untimely("sixth hut, nor may it be there: place(1, 12)", () -> x.place(HUT, 12));
        Checks.due("five huts: legal", x.legal(12), 203);
        Checks.due("a town in a hut's place", x.place(TOWN, 12), 6);
        Checks.due("a fifth hut again: place(1, 22)", x.place(HUT, 22), 7);
        Checks.untimely("sixth hut again: place(1, 16)", () -> x.place(HUT, 16));
    }

    private static void fourTowns() {
        Checks.sentence("at most 4 towns");
        HexIsland x = roadsForHuts();
        x.place(HUT, 23);
        x.place(HUT, 3);
        x.place(HUT, 25);
        Checks.due("first town", x.place(TOWN, 12), 6);
        Checks.due("second town", x.place(TOWN, 24), 7);
        Checks.due("third town", x.place(TOWN, 23), 8);
        Checks.due("fourth town", x.place(TOWN, 3), 9);
        Scenes.dueHand("four towns", x, 0, 6, 6, 12, 5, 4);
        Checks.untimely("fifth town: place(2, 25)", () -> x.place(TOWN, 25));
        Checks.untimely("fifth town, nor is a hut there: place(2, 0)", () -> x.place(TOWN, 0));
        Checks.due("a hut still: place(1, 22)", x.place(HUT, 22), 10);
    }

    private static void piecesOfEachPlayer() {
        Checks.sentence("PLAYERS have at most 15 roads, 5 huts and 4 towns, each of them");
        HexIsland x = roadsForHuts();
        Scenes.roads(x, 12, 0, 10, 18, 23, 24, 33);
        Checks.untimely("player 0 has fifteen roads", () -> x.place(ROAD, 27));
        Scenes.turns(Scenes.passed(x), 6, 6, 8, 8, 8);
        x.roll(6);
        x.place(HUT, 23);
        x.place(HUT, 3);
        x.place(HUT, 25);
        Checks.untimely("player 0 has five huts", () -> x.place(HUT, 22));
        x.pass();
        x.roll(2);
        Checks.due("player 1's third road", x.place(ROAD, 56), 2);
        Checks.due("player 1's third hut", x.place(HUT, 44), 3);
    }
}
