/** Promises 6 and 22 to 26: place, points, chain, award, owner and legal. */
public final class BuildTest {
    private static final int ROAD = Scenes.ROAD;
    private static final int HUT = Scenes.HUT;
    private static final int TOWN = Scenes.TOWN;

    public static void main(String[] args) {
        setUpOrder();
        setUpRefuses();
        secondHutBrings();
        placeRefusesFirst();
        pricesAreExact();
        roadsGoOn();
        roadsStopAtOthers();
        hutsKeepAway();
        townsTakeHuts();
        fifteenRoads();
        fiveHutsAndFourTowns();
        legalInOrder();
        ownerTells();
        chainsOfRings();
        awardComesAndGoes();
        awardOfTwoLongest();
        awardIsKeptInATie();
        awardOfTheLaterPlayerIsKept();
        chainBetweenOthers();
        pointsAdd();
        Checks.end();
    }

    private static void setUpOrder() {
        int[] spots = {0, 0, 1, 2, 2, 4, 51, 66, 52, 68, 53, 70, 21, 33, 26, 38};
        for (int n = 2; n <= 4; n++) {
            HexIsland x = new HexIsland();
            x.players(n, 3);
            for (int k = 0; k < 2 * n; k++) {
                int player = k < n ? k : 2 * n - 1 - k;
                Scenes.dueStand(n + " players, hut " + k, x, 1, player);
                Checks.due("set-up: place hut", x.place(HUT, spots[2 * k]), k < n ? 1 : 2);
                Scenes.dueStand(n + " players, road " + k, x, 2, player);
                Checks.due("set-up: place road", x.place(ROAD, spots[2 * k + 1]), k < n ? 1 : 2);
                Checks.due("set-up: owner of the hut", x.owner(1, spots[2 * k]), player);
                Checks.due("set-up: owner of the road", x.owner(0, spots[2 * k + 1]), player);
            }
            Scenes.dueStand(n + " players, set up", x, 3, 0);
            Checks.due("set up: legal(0)", x.legal(0), -1);
        }
    }

    private static void setUpRefuses() {
        HexIsland x = Scenes.farms();
        x.players(2, 3);
        Checks.illegal("phase 1: place(3, 0)", () -> x.place(3, 0));
        Checks.untimely("phase 1: place(0, 0)", () -> x.place(ROAD, 0));
        Checks.untimely("phase 1: place(2, 0)", () -> x.place(TOWN, 0));
        x.place(HUT, 12);
        Checks.due("no road: chain(0)", x.chain(0), 0);
        Checks.untimely("phase 2: place(1, 30)", () -> x.place(HUT, 30));
        Checks.untimely("phase 2: place(2, 12)", () -> x.place(TOWN, 12));
        Checks.misplaced("phase 2: place(0, 6)", () -> x.place(ROAD, 6));
        Scenes.dueLegal("phase 2", x, 11, 12, 19);
        x.place(ROAD, 19);
        Checks.misplaced("phase 1: place(1, 12)", () -> x.place(HUT, 12));
        Checks.misplaced("phase 1: place(1, 7)", () -> x.place(HUT, 7));
        Checks.misplaced("phase 1: place(1, 8)", () -> x.place(HUT, 8));
        Checks.misplaced("phase 1: place(1, 17)", () -> x.place(HUT, 17));
        Scenes.settle(x, 22, 34);
        x.place(HUT, 41);
        Checks.misplaced("phase 2, at the hut before: place(0, 24)", () -> x.place(ROAD, 24));
        Scenes.dueLegal("phase 2, second hut", x, 52, 59, 60);
        Checks.due("phase 2: chain(1)", x.chain(1), 1);
    }

    private static void secondHutBrings() {
        HexIsland x = Scenes.farms();
        x.hex(10, Scenes.CORN, 12);
        x.players(2, 12);
        Scenes.settle(x, 12, 19, 34, 50);
        Scenes.dueHand("first huts", x, 0, 0, 0, 0, 0, 0);
        Scenes.dueHand("first huts", x, 1, 0, 0, 0, 0, 0);
        x.place(HUT, 41);
        Scenes.dueHand("second hut", x, 1, 0, 0, 0, 1, 1);
        x.place(ROAD, 60);
        Scenes.dueHand("second road", x, 1, 0, 0, 0, 1, 1);
        Scenes.settle(x, 24, 28);
        Scenes.dueHand("second hut", x, 0, 0, 0, 0, 2, 1);
        Scenes.dueHand("second huts", x, -1, 19, 19, 19, 16, 17);
    }

    private static void placeRefusesFirst() {
        HexIsland x = Scenes.farmsOfTwo();
        int[][] none = {{-1, 0}, {3, 0}, {0, -1}, {0, 72}, {1, -1}, {1, 54}, {2, -1}, {2, 54}, {2, 71},
            {Integer.MIN_VALUE, 0}, {0, Integer.MAX_VALUE}};
        for (int[] w : none) {
            Checks.illegal("phase 3: place(" + w[0] + ", " + w[1] + ")", () -> x.place(w[0], w[1]));
        }
        Checks.untimely("phase 3: place(0, 25)", () -> x.place(ROAD, 25));
        x.roll(2);
        for (int[] w : none) {
            Checks.illegal("phase 6: place(" + w[0] + ", " + w[1] + ")", () -> x.place(w[0], w[1]));
        }
        Checks.untimely("no goods, nor may it be there: place(0, 71)", () -> x.place(ROAD, 71));
        Checks.untimely("no goods: place(1, 30)", () -> x.place(HUT, 30));
        Checks.untimely("no goods: place(2, 12)", () -> x.place(TOWN, 12));
        x.pass();
        x.roll(7);
        Checks.untimely("phase 5: place(0, 51)", () -> x.place(ROAD, 51));
    }

    /** Player 0 has a road to corner 23, and of the goods just so many. */
    private static HexIsland withHand(int... hand) {
        HexIsland x = Scenes.sixes(Scenes.farmsOfTwo(), 4);
        x.roll(6);
        x.place(ROAD, 26);
        int[] gift = new int[5];
        for (int good = 0; good < 5; good++) {
            gift[good] = x.goods(0, good) - hand[good];
        }
        x.offer(1, Scenes.bundle(gift[0], gift[1], gift[2], gift[3], gift[4]), 0);
        x.accept();
        Scenes.dueHand("with a hand", x, 0, hand);
        return x;
    }

    private static void pricesAreExact() {
        int[][] prices = {{1, 1, 0, 0, 0}, {1, 1, 1, 1, 0}, {0, 0, 0, 2, 3}};
        int[] spots = {25, 23, 12};
        for (int kind = 0; kind < 3; kind++) {
            int k = kind;
            HexIsland x = withHand(prices[kind]);
            int[] banked = new int[5];
            for (int good = 0; good < 5; good++) {
                banked[good] = x.goods(-1, good) + prices[kind][good];
                if (prices[kind][good] > 0) {
                    int[] less = prices[kind].clone();
                    less[good]--;
                    HexIsland y = withHand(less);
                    Checks.untimely("one good less: place(" + k + ", " + spots[k] + ")", () -> y.place(k, spots[k]));
                    Checks.due("one good less: owner", y.owner(Math.min(k, 1), spots[k]), k == 2 ? 0 : -1);
                    Scenes.dueHand("one good less", y, 0, less);
                }
            }
            Checks.due("just paid: place(" + kind + ")", x.place(kind, spots[kind]), kind == 0 ? 2 : 3);
            Scenes.dueHand("just paid", x, 0, 0, 0, 0, 0, 0);
            Scenes.dueHand("just paid", x, -1, banked);
        }
    }

    private static void roadsGoOn() {
        HexIsland x = withHand(4, 4, 1, 1, 0);
        Checks.misplaced("own road there: place(0, 26)", () -> x.place(ROAD, 26));
        Checks.misplaced("another's road there: place(0, 50)", () -> x.place(ROAD, 50));
        Checks.misplaced("at another's hut: place(0, 41)", () -> x.place(ROAD, 41));
        Checks.misplaced("at nothing: place(0, 0)", () -> x.place(ROAD, 0));
        Checks.misplaced("one road too far: place(0, 43)", () -> x.place(ROAD, 43));
        Checks.due("at the own hut: place(0, 11)", x.place(ROAD, 11), 2);
        Checks.due("at a road: place(0, 35)", x.place(ROAD, 35), 2);
        Checks.due("at a road, the fifth of a chain: place(0, 6)", x.place(ROAD, 6), 4);
        Checks.due("at a road, into another's hut: place(0, 42)", x.place(ROAD, 42), 4);
        Scenes.dueHand("four roads", x, 0, 0, 0, 1, 1, 0);
    }

    private static void roadsStopAtOthers() {
        HexIsland x = Scenes.turns(Scenes.farmsOfTwo(), 6, 8, 6, 8, 6, 8);
        x.roll(2);
        Scenes.roads(x, 36, 44);
        x.pass();
        x.roll(2);
        Scenes.roads(x, 42, 43);
        Checks.due("place(1, 35)", x.place(HUT, 35), 3);
        x.pass();
        x.roll(2);
        Checks.misplaced("through another's hut: place(0, 51)", () -> x.place(ROAD, 51));
        Checks.due("beside it: place(0, 45)", x.place(ROAD, 45), 2);
        Scenes.turns(passed(x), 8, 8);
        x.roll(2);
        Checks.due("on from the own hut: place(0, 51)", x.place(ROAD, 51), 3);
    }

    private static HexIsland passed(HexIsland x) {
        x.pass();
        return x;
    }

    private static void hutsKeepAway() {
        HexIsland x = withHand(4, 4, 4, 4, 0);
        Checks.misplaced("no road: place(1, 0)", () -> x.place(HUT, 0));
        Checks.misplaced("another's road alone: place(1, 46)", () -> x.place(HUT, 46));
        Checks.misplaced("beside the own hut: place(1, 17)", () -> x.place(HUT, 17));
        Checks.misplaced("a hut there: place(1, 12)", () -> x.place(HUT, 12));
        Scenes.roads(x, 35, 43);
        Checks.misplaced("beside another's hut: place(1, 29)", () -> x.place(HUT, 29));
        Checks.due("free: place(1, 23)", x.place(HUT, 23), 3);
        Checks.due("two roads on: place(1, 35)", x.place(HUT, 35), 4);
    }

    private static void townsTakeHuts() {
        HexIsland x = withHand(0, 0, 0, 5, 5);
        Checks.misplaced("another's hut: place(2, 34)", () -> x.place(TOWN, 34));
        Checks.misplaced("no hut: place(2, 23)", () -> x.place(TOWN, 23));
        Checks.due("own hut: place(2, 24)", x.place(TOWN, 24), 3);
        Checks.due("owner(1, 24)", x.owner(1, 24), 8);
        Scenes.sixes(passed(x), 3);
        x.roll(6);
        Checks.misplaced("own town: place(2, 24)", () -> x.place(TOWN, 24));
        Checks.due("the other hut: place(2, 12)", x.place(TOWN, 12), 4);
    }

    private static void fifteenRoads() {
        HexIsland x = Scenes.sixes(Scenes.farmsOfTwo(), 14);
        x.roll(6);
        Scenes.roads(x, 11, 12, 6, 0, 10, 18, 23, 24, 33, 26, 27, 29);
        Checks.due("fourteen roads: legal(0)", x.legal(0), 1);
        x.place(ROAD, 25);
        Scenes.dueHand("fifteen roads", x, 0, 2, 2, 15, 16, 16);
        Checks.untimely("fifteen roads: place(0, 36)", () -> x.place(ROAD, 36));
        Checks.untimely("fifteen roads: place(0, 71)", () -> x.place(ROAD, 71));
        Checks.due("fifteen roads: legal(0)", x.legal(0), 100);
        x.pass();
        Scenes.turns(x, 8);
        Scenes.turns(x, 8);
        x.roll(2);
        Checks.due("the other player's road", x.place(ROAD, 42), 2);
    }

    private static void fiveHutsAndFourTowns() {
        HexIsland x = Scenes.sixes(Scenes.farmsOfTwo(), 14);
        x.roll(6);
        Scenes.roads(x, 26, 11, 6, 29, 30, 25);
        Checks.due("third hut", x.place(HUT, 23), 3);
        Checks.due("fourth hut", x.place(HUT, 3), 4);
        Checks.due("fifth hut", x.place(HUT, 25), 5);
        Checks.untimely("sixth hut", () -> x.place(HUT, 22));
        Checks.due("five huts: legal", x.legal(12), 203);
        Checks.due("first town", x.place(TOWN, 12), 6);
        Checks.due("a hut again", x.place(HUT, 22), 7);
        Checks.due("second town", x.place(TOWN, 24), 8);
        Checks.due("third town", x.place(TOWN, 23), 9);
        Checks.due("fourth town", x.place(TOWN, 3), 10);
        Scenes.dueHand("four towns", x, 0, 5, 5, 11, 4, 4);
        Checks.untimely("fifth town", () -> x.place(TOWN, 25));
        Checks.untimely("fifth town, nor is a hut there", () -> x.place(TOWN, 0));
    }

    private static void legalInOrder() {
        HexIsland x = Scenes.sixes(Scenes.farmsOfTwo(), 2);
        Scenes.dueLegal("phase 3", x);
        x.roll(6);
        Scenes.dueLegal("all goods", x, 11, 12, 20, 25, 26, 27, 29, 36, 212, 224);
        x.place(ROAD, 26);
        Scenes.dueLegal("a road on", x, 11, 12, 20, 25, 27, 29, 35, 36, 123, 212, 224);
        x.place(TOWN, 12);
        Scenes.dueLegal("no ore", x, 11, 12, 20, 25, 27, 29, 35, 36, 123);
        x.place(HUT, 23);
        Scenes.dueLegal("a hut on", x, 11, 12, 20, 25, 27, 29, 35, 36);
        x.place(ROAD, 27);
        Scenes.dueLegal("no goods", x);
        Checks.due("legal(-1)", x.legal(-1), -1);
        HexIsland y = new HexIsland();
        y.players(2, 3);
        Checks.due("phase 1: legal(0)", y.legal(0), 100);
        Checks.due("phase 1: legal(53)", y.legal(53), 153);
        Checks.due("phase 1: legal(54)", y.legal(54), -1);
        Checks.due("phase 1: legal(-1)", y.legal(-1), -1);
        Checks.due("phase 1: legal(least)", y.legal(Integer.MIN_VALUE), -1);
        Checks.due("phase 1: legal(most)", y.legal(Integer.MAX_VALUE), -1);
    }

    private static void ownerTells() {
        HexIsland x = Scenes.farmsOfTwo();
        Checks.due("owner(0, 19)", x.owner(0, 19), 0);
        Checks.due("owner(0, 60)", x.owner(0, 60), 1);
        Checks.due("owner(1, 12)", x.owner(1, 12), 0);
        Checks.due("owner(1, 41)", x.owner(1, 41), 1);
        Checks.due("owner(0, 71)", x.owner(0, 71), -1);
        Checks.due("owner(1, 53)", x.owner(1, 53), -1);
        Scenes.turns(x, 8, 8, 8);
        x.roll(2);
        x.place(TOWN, 34);
        Checks.due("owner(1, 34)", x.owner(1, 34), 9);
        int[][] none = {{-1, 0}, {2, 0}, {0, -1}, {0, 72}, {1, -1}, {1, 54}, {Integer.MAX_VALUE, 12}};
        for (int[] w : none) {
            Checks.outside("owner(" + w[0] + ", " + w[1] + ")", () -> x.owner(w[0], w[1]));
        }
    }

    private static void chainsOfRings() {
        HexIsland x = Scenes.sixes(Scenes.farmsOfTwo(), 8);
        Checks.due("two single roads: chain(0)", x.chain(0), 1);
        x.roll(6);
        int[] edges = {27, 26, 12, 13, 20, 25, 14, 24};
        int[] dues = {2, 4, 5, 6, 7, 7, 7, 8};
        for (int k = 0; k < edges.length; k++) {
            x.place(ROAD, edges[k]);
            Checks.due("ring, road " + edges[k] + ": chain(0)", x.chain(0), dues[k]);
        }
        Checks.due("ring: chain(1)", x.chain(1), 1);
        Checks.outside("chain(-1)", () -> x.chain(-1));
        Checks.outside("chain(2)", () -> x.chain(2));
        Checks.outside("points(-1)", () -> x.points(-1));
        Checks.outside("points(2)", () -> x.points(2));
    }

    private static void awardComesAndGoes() {
        HexIsland x = Scenes.turns(Scenes.farmsOfTwo(), 6, 8, 6, 8, 6, 8);
        x.roll(2);
        Scenes.roads(x, 27, 26);
        Checks.due("chain of four: chain(0)", x.chain(0), 4);
        Checks.due("chain of four: award()", x.award(), -1);
        Checks.due("fifth road: place(0, 11)", x.place(ROAD, 11), 4);
        Checks.due("chain of five: award()", x.award(), 0);
        Checks.due("chain of five: chain(0)", x.chain(0), 5);
        x.pass();
        x.roll(2);
        Scenes.roads(x, 42, 35);
        Checks.due("not yet broken: award()", x.award(), 0);
        Checks.due("place(1, 23)", x.place(HUT, 23), 3);
        Checks.due("broken: chain(0)", x.chain(0), 3);
        Checks.due("broken: chain(1)", x.chain(1), 3);
        Checks.due("broken: award()", x.award(), -1);
        Checks.due("broken: points(0)", x.points(0), 2);
        Checks.due("undo of the hut", x.undo(), 6);
        Checks.due("whole again: award()", x.award(), 0);
        Checks.due("whole again: chain(0)", x.chain(0), 5);
    }

    private static void awardOfTwoLongest() {
        HexIsland x = Scenes.turns(Scenes.farmsOfThree(), 6, 8, 9, 6, 8, 9, 6, 8, 9, 6, 8, 9, 8, 2, 2);
        x.roll(2);
        Scenes.roads(x, 27, 26, 11, 6);
        Checks.due("chain of six: award()", x.award(), 0);
        x.pass();
        x.roll(2);
        Scenes.roads(x, 42, 35, 56, 57);
        Checks.due("chain of five: chain(1)", x.chain(1), 5);
        x.pass();
        x.roll(2);
        Scenes.roads(x, 22, 17, 9);
        Checks.due("chain of five: chain(2)", x.chain(2), 5);
        Checks.due("the longest: award()", x.award(), 0);
        x.pass();
        Scenes.turns(x, 2);
        x.roll(2);
        Checks.due("the longest broken: place(1, 23)", x.place(HUT, 23), 3);
        Checks.due("the longest broken: chain(0)", x.chain(0), 4);
        Checks.due("two longest: award()", x.award(), -1);
        x.pass();
        x.roll(2);
        Checks.due("one longer: place(0, 4)", x.place(ROAD, 4), 4);
        Checks.due("one longer: award()", x.award(), 2);
        Checks.due("one longer: points(0)", x.points(0), 2);
    }

    private static void awardIsKeptInATie() {
        HexIsland x = Scenes.turns(Scenes.farmsOfTwo(), 6, 8, 6, 8, 6, 8, 8, 8);
        x.roll(2);
        Scenes.roads(x, 27, 26, 11);
        x.pass();
        x.roll(2);
        Scenes.roads(x, 56, 42, 35);
        Checks.due("four against five: chain(1)", x.chain(1), 4);
        Checks.due("five against five: place(0, 57)", x.place(ROAD, 57), 2);
        Checks.due("five against five: chain(1)", x.chain(1), 5);
        Checks.due("five against five: award()", x.award(), 0);
        Checks.due("six against five: place(0, 58)", x.place(ROAD, 58), 4);
        Checks.due("six against five: award()", x.award(), 1);
        Checks.due("six against five: points(0)", x.points(0), 2);
    }

    private static void awardOfTheLaterPlayerIsKept() {
        HexIsland x = Scenes.turns(Scenes.farmsOfTwo(), 6, 8, 6, 8, 6, 8, 6, 8);
        x.roll(2);
        x.pass();
        x.roll(2);
        Scenes.roads(x, 56, 42, 35, 57);
        Checks.due("five: award()", x.award(), 1);
        x.pass();
        x.roll(2);
        Scenes.roads(x, 27, 26);
        Checks.due("five and four: place(0, 11)", x.place(ROAD, 11), 2);
        Checks.due("five and five: chain(0)", x.chain(0), 5);
        Checks.due("five and five: award()", x.award(), 1);
        Checks.due("five and six: place(0, 6)", x.place(ROAD, 6), 4);
        Checks.due("five and six: award()", x.award(), 0);
    }

    /** Both ends of the chain bear huts of the other player, one of which broke it off the rest. */
    private static void chainBetweenOthers() {
        HexIsland x = Scenes.turns(Scenes.farmsOfTwo(), 6, 6, 6, 6, 6, 6, 8, 8, 8, 8, 8, 8);
        x.roll(2);
        Scenes.roads(x, 27, 35, 43, 51, 58, 59);
        Checks.due("a chain to another's hut: chain(0)", x.chain(0), 7);
        x.pass();
        x.roll(2);
        Scenes.roads(x, 41, 34, 25, 26);
        Checks.due("no longer one: chain(1)", x.chain(1), 5);
        Checks.due("place(1, 23)", x.place(HUT, 23), 3);
        Checks.due("between two huts: chain(0)", x.chain(0), 5);
        Checks.due("between two huts: award()", x.award(), 0);
    }

    private static void pointsAdd() {
        HexIsland x = Scenes.sixes(Scenes.farmsOfTwo(12, 04444), 6);
        x.roll(6);
        Checks.due("two huts: points(0)", x.points(0), 2);
        x.buy();
        x.buy();
        Checks.due("two cards: points(0)", x.points(0), 4);
        x.place(TOWN, 12);
        Checks.due("a town: points(0)", x.points(0), 5);
        Scenes.roads(x, 27, 26, 11);
        Checks.due("the award: points(0)", x.points(0), 7);
        Checks.due("points(1)", x.points(1), 2);
    }
}
