/** Promises 22 to 24: points, chain and award. */
public final class ChainTest {
    private static final int ROAD = Scenes.ROAD;
    private static final int HUT = Scenes.HUT;
    private static final int TOWN = Scenes.TOWN;

    public static void main(String[] args) {
        chainOfNoRoad();
        chainsOfRings();
        chainOfFifteen();
        chainThroughOwnHutAndTown();
        chainBrokenByAHutAndATown();
        chainBetweenOthers();
        chainRoundToAnothersHut();
        awardFromFiveOn();
        awardGoesBelowFive();
        awardIsKeptInATie();
        awardOfTheLaterPlayerIsKept();
        awardIsKeptByACutChain();
        awardGoesToTheNextLongest();
        awardOfSeveralLongest();
        pointsAdd();
        pointsOfOtherCards();
        playersFirstToLast();
        Checks.end();
    }

    private static void chainOfNoRoad() {
        Checks.sentence("A player's CHAIN is the greatest number of different roads of the player");
        HexIsland x = Scenes.farms();
        x.players(2, 12);
        Checks.due("nothing: chain(0)", x.chain(0), 0);
        x.place(HUT, 12);
        Checks.due("a hut alone: chain(0)", x.chain(0), 0);
        x.place(ROAD, 19);
        Checks.due("a road: chain(0)", x.chain(0), 1);
        Checks.due("another's road: chain(1)", x.chain(1), 0);
    }

    private static void chainsOfRings() {
        Checks.sentence("that can be gone along one after the other, each from the corner at which the one before ended");
        HexIsland x = Scenes.sixes(Scenes.farmsOfTwo(), 8);
        Checks.due("two single roads: chain(0)", x.chain(0), 1);
        x.roll(6);
        int[] edges = {27, 26, 12, 13, 20, 25, 14, 24};
        int[] dues = {2, 4, 5, 6, 7, 7, 7, 8};
        for (int k = 0; k < edges.length; k++) {
            x.place(ROAD, edges[k]);
            Checks.due("ring, road " + edges[k] + ": chain(0)", x.chain(0), dues[k]);
        }
        Checks.due("ring: chain(1)", x.chain(1), 1);
    }

    private static void chainOfFifteen() {
        Checks.sentence("A player's CHAIN is the greatest number of different roads of the player");
        HexIsland x = Scenes.rolled(Scenes.sixes(Scenes.farmsOfTwo(), 14), 6);
        int[] edges = {26, 27, 29, 30, 31, 32, 38, 48, 11, 10, 18, 23, 33};
        int[] dues = {2, 4, 5, 6, 7, 8, 9, 10, 11, 12, 13, 14, 15};
        for (int k = 0; k < edges.length; k++) {
            x.place(ROAD, edges[k]);
            Checks.due("road " + edges[k] + " of a line: chain(0)", x.chain(0), dues[k]);
        }
    }

    private static void chainThroughOwnHutAndTown() {
        Checks.sentence("never on through a corner that bears a hut or town of another player");
        HexIsland x = Scenes.rolled(Scenes.sixes(Scenes.farmsOfTwo(), 4), 6);
        x.place(ROAD, 11);
        Checks.due("through the own hut: chain(0)", x.chain(0), 2);
        x.place(TOWN, 12);
        Checks.due("through the own town: chain(0)", x.chain(0), 2);
        x.place(ROAD, 26);
        x.place(HUT, 23);
        x.place(ROAD, 27);
        Checks.due("through a town and a hut: chain(0)", x.chain(0), 5);
    }

    private static void chainBrokenByAHutAndATown() {
        Checks.sentence("never on through a corner that bears a hut or town of another player");
        HexIsland x = Scenes.turns(Scenes.farmsOfTwo(), 6, 8, 6, 8, 6, 8);
        x.roll(2);
        Scenes.roads(x, 27, 26, 11);
        x.pass();
        x.roll(2);
        Scenes.roads(x, 42, 35);
        Checks.due("another's road there: chain(0)", x.chain(0), 5);
        x.place(HUT, 23);
        Checks.due("another's hut there: chain(0)", x.chain(0), 3);
        x.place(TOWN, 23);
        Checks.due("another's town there: chain(0)", x.chain(0), 3);
        Checks.due("the own town there: chain(1)", x.chain(1), 3);
    }

    /** Both ends of the chain bear huts of the other player, one of which broke it off the rest. */
    private static void chainBetweenOthers() {
        Checks.sentence("never on through a corner that bears a hut or town of another player: it may begin and end there");
        HexIsland x = Scenes.turns(Scenes.farmsOfTwo(), 6, 6, 6, 6, 6, 6, 8, 8, 8, 8, 8, 8);
        x.roll(2);
        Scenes.roads(x, 27, 35, 43, 51, 58, 59);
        Checks.due("a chain to another's hut: chain(0)", x.chain(0), 7);
        x.pass();
        x.roll(2);
        Scenes.roads(x, 41, 34, 25, 26);
        Checks.due("no longer one: chain(1)", x.chain(1), 5);
        Checks.due("place(1, 23)", x.place(HUT, 23), 3);
        Checks.due("between two huts: chain(0)", x.chain(0), 5);
    }

    /** A ring round hex 0, with a hut of player 1 on one of its corners. */
    private static void chainRoundToAnothersHut() {
        Checks.sentence("never on through a corner that bears a hut or town of another player: it may begin and end there");
        HexIsland x = Scenes.farms();
        x.players(2, 12);
        Scenes.settle(x, 12, 11, 4, 2, 34, 50, 24, 28);
        Scenes.sixes(x, 6);
        x.roll(2);
        Scenes.roads(x, 12, 7, 6, 0);
        Checks.due("five of the ring: chain(0)", x.chain(0), 5);
        x.place(ROAD, 1);
        Checks.due("the whole ring: chain(0)", x.chain(0), 6);
        x.place(ROAD, 19);
        Checks.due("the ring and a road off it: chain(0)", x.chain(0), 6);
    }

    private static void awardFromFiveOn() {
        Checks.sentence("when no chain is 5 or more, nobody has the award; otherwise the player whose chain is longer"
            + " than all others gets it");
        HexIsland x = Scenes.turns(Scenes.farmsOfTwo(), 6, 6, 6, 8);
        x.roll(2);
        Scenes.roads(x, 27, 26);
        Checks.due("a chain of four: chain(0)", x.chain(0), 4);
        Checks.due("a chain of four: award()", x.award(), -1);
        Checks.due("a chain of four: points(0)", x.points(0), 2);
        Checks.due("the fifth road: place(0, 11)", x.place(ROAD, 11), 4);
        Checks.due("a chain of five: chain(0)", x.chain(0), 5);
        Checks.due("a chain of five: award()", x.award(), 0);
        Checks.due("a chain of five: points(0)", x.points(0), 4);
        Checks.due("undo of the fifth road", x.undo(), 6);
        Checks.due("a chain of four again: award()", x.award(), -1);
        x.place(ROAD, 20);
        Checks.due("five roads, but a chain of four: award()", x.award(), -1);
    }

    private static void awardGoesBelowFive() {
        Checks.sentence("After each call, when no chain is 5 or more, nobody has the award");
        HexIsland x = Scenes.turns(Scenes.farmsOfTwo(), 6, 8, 6, 8, 6, 8);
        x.roll(2);
        Scenes.roads(x, 27, 26, 11);
        x.pass();
        x.roll(2);
        Scenes.roads(x, 42, 35);
        Checks.due("not yet broken: award()", x.award(), 0);
        Checks.due("place(1, 23)", x.place(HUT, 23), 3);
        Checks.due("broken: chain(0)", x.chain(0), 3);
        Checks.due("broken: chain(1)", x.chain(1), 3);
        Checks.due("broken: award()", x.award(), -1);
        Checks.due("broken: points(0)", x.points(0), 2);
        Checks.due("undo of the hut", x.undo(), 6);
        Checks.due("whole again: award()", x.award(), 0);
        Checks.due("whole again: chain(0)", x.chain(0), 5);
    }

    private static void awardIsKeptInATie() {
        Checks.sentence("who has it keeps it as long as no chain is longer");
        HexIsland x = Scenes.turns(Scenes.farmsOfTwo(), 6, 8, 6, 8, 6, 8, 8, 8);
        x.roll(2);
        Scenes.roads(x, 27, 26, 11);
        x.pass();
        x.roll(2);
        Scenes.roads(x, 56, 42, 35);
        Checks.due("four against five: chain(1)", x.chain(1), 4);
        Checks.due("five against five: place(0, 57)", x.place(ROAD, 57), 2);
        Checks.due("five against five: chain(1)", x.chain(1), 5);
        Checks.due("five against five: award()", x.award(), 0);
        Checks.due("six against five: place(0, 58)", x.place(ROAD, 58), 4);
        Checks.due("six against five: award()", x.award(), 1);
        Checks.due("six against five: points(0)", x.points(0), 2);
    }

    private static void awardOfTheLaterPlayerIsKept() {
        Checks.sentence("who has it keeps it as long as no chain is longer");
        HexIsland x = Scenes.turns(Scenes.farmsOfTwo(), 6, 8, 6, 8, 6, 8, 6, 8);
        x.roll(2);
        x.pass();
        x.roll(2);
        Scenes.roads(x, 56, 42, 35, 57);
        Checks.due("five: award()", x.award(), 1);
        x.pass();
        x.roll(2);
        Scenes.roads(x, 27, 26);
        Checks.due("five and four: place(0, 11)", x.place(ROAD, 11), 2);
        Checks.due("five and five: chain(0)", x.chain(0), 5);
        Checks.due("five and five: award()", x.award(), 1);
        Checks.due("five and six: place(0, 6)", x.place(ROAD, 6), 4);
        Checks.due("five and six: award()", x.award(), 0);
    }

    /** The chain of seven is cut to five, as many as the other player has. */
    private static void awardIsKeptByACutChain() {
        Checks.sentence("who has it keeps it as long as no chain is longer");
        HexIsland x = Scenes.turns(Scenes.farmsOfTwo(), 6, 6, 6, 6, 6, 6, 8, 8, 8, 8, 8, 8);
        x.roll(2);
        Scenes.roads(x, 27, 35, 43, 51, 58, 59);
        x.pass();
        x.roll(2);
        Scenes.roads(x, 41, 34, 25, 26);
        Checks.due("seven and five: award()", x.award(), 0);
        x.place(HUT, 23);
        Checks.due("cut to five: chain(0)", x.chain(0), 5);
        Checks.due("five of the other: chain(1)", x.chain(1), 5);
        Checks.due("five and five: award()", x.award(), 0);
        Checks.due("five and six: place(0, 55)", x.place(ROAD, 55), 5);
        Checks.due("five and six: award()", x.award(), 1);
    }

    /** Player 0's chain of six is cut to four, player 1 has five. */
    private static void awardGoesToTheNextLongest() {
        Checks.sentence("otherwise the player whose chain is longer than all others gets it");
        HexIsland x = Scenes.turns(Scenes.farmsOfTwo(), 6, 8, 6, 8, 6, 8, 6, 8, 6, 8);
        x.roll(2);
        Scenes.roads(x, 27, 26, 11, 6);
        x.pass();
        x.roll(2);
        Scenes.roads(x, 42, 35, 56, 57);
        Checks.due("six and five: award()", x.award(), 0);
        Checks.due("the hut that cuts: place(1, 23)", x.place(HUT, 23), 5);
        Checks.due("cut to four: chain(0)", x.chain(0), 4);
        Checks.due("four and five: award()", x.award(), 1);
        Checks.due("four and five: points(0)", x.points(0), 2);
    }

    private static void awardOfSeveralLongest() {
        Checks.sentence("if there are several longest, nobody has it");
        HexIsland x = Scenes.turns(Scenes.farmsOfThree(), 6, 8, 9, 6, 8, 9, 6, 8, 9, 6, 8, 9, 8, 2, 2);
        x.roll(2);
        Scenes.roads(x, 27, 26, 11, 6);
        Checks.due("chain of six: award()", x.award(), 0);
        x.pass();
        x.roll(2);
        Scenes.roads(x, 42, 35, 56, 57);
        Checks.due("chain of five: chain(1)", x.chain(1), 5);
        x.pass();
        x.roll(2);
        Scenes.roads(x, 22, 17, 9);
        Checks.due("chain of five: chain(2)", x.chain(2), 5);
        Checks.due("the longest: award()", x.award(), 0);
        x.pass();
        Scenes.turns(x, 2);
        x.roll(2);
        Checks.due("the longest broken: place(1, 23)", x.place(HUT, 23), 3);
        Checks.due("the longest broken: chain(0)", x.chain(0), 4);
        Checks.due("two longest: award()", x.award(), -1);
        x.pass();
        x.roll(2);
        Checks.due("one longer: place(0, 4)", x.place(ROAD, 4), 4);
        Checks.due("one longer: award()", x.award(), 2);
        Checks.due("one longer: points(0)", x.points(0), 2);
        x.undo();
        Checks.due("two longest again: award()", x.award(), -1);
        x.pass();
        x.roll(6);
        Checks.due("three longest: place(0, 0)", x.place(ROAD, 0), 2);
        Checks.due("three longest: chain(0)", x.chain(0), 5);
        Checks.due("three longest: award()", x.award(), -1);
        x.pass();
        Scenes.turns(x, 6, 2);
        x.roll(2);
        Checks.due("one longer again: place(0, 1)", x.place(ROAD, 1), 4);
        Checks.due("one longer again: award()", x.award(), 0);
    }

    private static void pointsAdd() {
        Checks.sentence("POINTS: 1 for a hut, 2 for a town, 1 for each card of kind 4, 2 for the AWARD");
        HexIsland x = Scenes.sixes(Scenes.farmsOfTwo(12, 04444), 6);
        x.roll(6);
        Checks.due("two huts: points(0)", x.points(0), 2);
        x.buy();
        x.buy();
        Checks.due("two cards: points(0)", x.points(0), 4);
        x.place(TOWN, 12);
        Checks.due("a town: points(0)", x.points(0), 5);
        Scenes.roads(x, 27, 26, 11);
        Checks.due("the award: points(0)", x.points(0), 7);
        Checks.due("points(1)", x.points(1), 2);
    }

    private static void pointsOfOtherCards() {
        Checks.sentence("POINTS: 1 for each card of kind 4");
        HexIsland x = Scenes.rolled(Scenes.sixes(Scenes.farmsOfTwo(12, 0543210), 6), 6);
        int[] dues = {2, 2, 2, 2, 3, 4};
        for (int k = 0; k < dues.length; k++) {
            x.buy();
            Checks.due("card " + k + ": points(0)", x.points(0), dues[k]);
        }
    }

    private static void playersFirstToLast() {
        HexIsland x = Scenes.farmsOfThree();
        for (int player = -1; player <= 3; player++) {
            int p = player;
            if (player < 0 || player > 2) {
                Checks.sentence("points: IndexOutOfBoundsException when there is no such player");
                Checks.outside("points(" + player + ")", () -> x.points(p));
                Checks.sentence("chain: IndexOutOfBoundsException when there is no such player");
                Checks.outside("chain(" + player + ")", () -> x.chain(p));
            } else {
                Checks.due("points(" + player + ")", x.points(player), 2);
                Checks.due("chain(" + player + ")", x.chain(player), 1);
            }
        }
    }
}
