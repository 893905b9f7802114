/** A game of two in each of the phases 0 .. 8; in 0 no player, in 1 and 2 player 1, else player 0 is on turn. */
final class Phases {
    static final int LAYOUT = 0;
    static final int FIRST_HUT = 1;
    static final int FIRST_ROAD = 2;
    static final int ROLL = 3;
    static final int GIVING = 4;
    static final int BLOCKING = 5;
    static final int TURN = 6;
    static final int FREE_ROADS = 7;
    static final int OVER = 8;

    /** The kinds 0, 1, 2, 3 and 4, one after the other. */
    private static final long ALL_KINDS = 043210;

    private Phases() {
    }

    static HexIsland make(int phase) {
        switch (phase) {
            case LAYOUT: return layout();
            case FIRST_HUT: return begun(12, 19);
            case FIRST_ROAD: return begun(12, 19, 34);
            case ROLL: return Scenes.turns(Scenes.farmsOfTwo(12, ALL_KINDS), 6, 8, 6, 8);
            case GIVING: return giving();
            case BLOCKING: return blocking();
            case TURN: return turn();
            case FREE_ROADS: return freeRoads();
            default: return over();
        }
    }

    static Refusal refusal(int phase) {
        return new Refusal("phase " + phase, () -> make(phase));
    }

    private static HexIsland layout() {
        HexIsland x = Scenes.farms();
        x.port(9, 5);
        x.deck(ALL_KINDS);
        return x;
    }

    private static HexIsland begun(int... spots) {
        HexIsland x = layout();
        x.players(2, 12);
        return Scenes.settle(x, spots);
    }

    /** Both have twelve goods; player 1 has given one of six, player 0 none. */
    private static HexIsland giving() {
        HexIsland x = Scenes.turns(Scenes.farmsOfTwo(12, ALL_KINDS), 6, 8, 6, 8);
        x.roll(7);
        x.give(1, Scenes.WOOD);
        return x;
    }

    /** Both have seven goods; hex 1 is blocked. */
    private static HexIsland blocking() {
        HexIsland x = Scenes.turns(Scenes.farmsOfTwo(12, ALL_KINDS), 6, 8);
        x.roll(7);
        return x;
    }

    /** Hands of 5, 5, 1, 2, 2 and 1, 1, 1, 2, 2; player 0 has an old card of each kind 0 .. 3, and offers a wood for a corn. */
    private static HexIsland turn() {
        HexIsland x = Scenes.sixes(Scenes.farmsOfTwo(12, ALL_KINDS), 4);
        x.roll(6);
        for (int k = 0; k < 4; k++) {
            x.buy();
        }
        x.pass();
        Scenes.turns(x, 8);
        x.roll(2);
        x.offer(1, Scenes.bundle(1, 0, 0, 0, 0), Scenes.bundle(0, 0, 0, 1, 0));
        return x;
    }

    /** The first of the two free roads is built. */
    private static HexIsland freeRoads() {
        HexIsland x = turn();
        x.play(1, 0, 0);
        x.place(Scenes.ROAD, 26);
        return x;
    }

    private static HexIsland over() {
        HexIsland x = Scenes.sixes(Scenes.farmsOfTwo(3, ALL_KINDS), 4);
        x.roll(6);
        x.offer(1, Scenes.bundle(1, 0, 0, 0, 0), 0);
        x.place(Scenes.TOWN, 12);
        return x;
    }
}
