/** Promises 15 to 19: pass, undo, phase, turn and winner. */
public final class TurnTest {
    private static final int ROAD = Scenes.ROAD;
    private static final int HUT = Scenes.HUT;
    private static final int TOWN = Scenes.TOWN;

    private interface Scene {
        HexIsland make();
    }

    private interface Step {
        void go(HexIsland x);
    }

    public static void main(String[] args) {
        passGoesRound();
        passRefuses();
        wonByATown();
        wonByACard();
        wonByTheAward();
        wonByAFreeRoad();
        wonAtTheTurnsBegin();
        overRefuses();
        undoOfEachCall();
        undoRefuses();
        undoTakesBackWhatIsHidden();
        thrownCallsChangeNothing();
        Checks.end();
    }

    private static void passGoesRound() {
        HexIsland x = Scenes.farmsOfThree();
        for (int k = 1; k <= 7; k++) {
            x.roll(2);
            Checks.due("pass()", x.pass(), k % 3);
            Scenes.dueStand("pass()", x, 3, k % 3);
        }
    }

    private static void passRefuses() {
        HexIsland x = Scenes.farms();
        Checks.untimely("phase 0: pass()", () -> x.pass());
        x.players(2, 12);
        Checks.untimely("phase 1: pass()", () -> x.pass());
        x.place(HUT, 12);
        Checks.untimely("phase 2: pass()", () -> x.pass());
        HexIsland y = Scenes.farmsOfTwo();
        Checks.untimely("phase 3: pass()", () -> y.pass());
        y.roll(7);
        Checks.untimely("phase 5: pass()", () -> y.pass());
    }

    private static void wonByATown() {
        HexIsland x = Scenes.sixes(Scenes.farmsOfTwo(3, 0), 2);
        x.roll(2);
        Checks.due("two points: winner()", x.winner(), -1);
        Checks.due("three points: place(2, 12)", x.place(TOWN, 12), 3);
        Scenes.dueStand("three points", x, 8, 0);
        Checks.due("three points: winner()", x.winner(), 0);
        Checks.due("undo()", x.undo(), 6);
        Checks.due("undone: winner()", x.winner(), -1);
        Checks.due("undone: points(0)", x.points(0), 2);
    }

    private static void wonByACard() {
        HexIsland x = Scenes.turns(Scenes.farmsOfTwo(4, 0454), 8, 8, 8);
        x.roll(8);
        x.buy();
        Checks.due("three of four: winner()", x.winner(), -1);
        Checks.due("three of four: phase()", x.phase(), 6);
        Checks.due("four points: buy()", x.buy(), 14);
        Scenes.dueStand("four points", x, 8, 1);
        Checks.due("four points: winner()", x.winner(), 1);
    }

    private static void wonByTheAward() {
        HexIsland x = Scenes.sixes(Scenes.farmsOfTwo(4, 0), 2);
        x.roll(6);
        Scenes.roads(x, 27, 26);
        Checks.due("chain of four: winner()", x.winner(), -1);
        Checks.due("chain of five: place(0, 11)", x.place(ROAD, 11), 4);
        Checks.due("chain of five: winner()", x.winner(), 0);
        Checks.due("chain of five: phase()", x.phase(), 8);
    }

    private static void wonByAFreeRoad() {
        HexIsland x = Scenes.sixes(Scenes.farmsOfTwo(4, 01), 2);
        x.roll(6);
        x.buy();
        Scenes.roads(x, 27, 26);
        x.pass();
        Scenes.turns(x, 2);
        x.roll(2);
        x.play(1, 0, 0);
        Checks.due("a free road: place(0, 11)", x.place(ROAD, 11), 4);
        Scenes.dueStand("a free road", x, 8, 0);
        Checks.due("undo()", x.undo(), 7);
        Checks.due("another free road: place(0, 36)", x.place(ROAD, 36), 4);
        Scenes.dueStand("another free road", x, 8, 0);
    }

    /** Player 1 takes the award from player 0 for player 2, who has then five points, but not the turn. */
    private static void wonAtTheTurnsBegin() {
        HexIsland x = Scenes.farms();
        x.players(3, 5);
        Scenes.settle(x, 12, 19, 34, 50, 25, 31, 2, 5, 41, 60, 24, 28);
        Scenes.turns(x, 6, 8, 9, 6, 8, 9, 6, 8, 9, 6, 2, 9);
        x.roll(2);
        Scenes.roads(x, 27, 26, 11, 6);
        x.pass();
        x.roll(2);
        x.offer(2, Scenes.bundle(0, 0, 1, 1, 0), 0);
        x.accept();
        Scenes.roads(x, 42, 35);
        x.pass();
        x.roll(2);
        Scenes.roads(x, 22, 17, 9);
        Checks.due("third hut: place(1, 15)", x.place(HUT, 15), 3);
        x.pass();
        Scenes.turns(x, 2);
        x.roll(2);
        Checks.due("place(1, 23)", x.place(HUT, 23), 3);
        Checks.due("for another one: award()", x.award(), 2);
        Checks.due("for another one: points(2)", x.points(2), 5);
        Scenes.dueStand("for another one", x, 6, 1);
        Checks.due("for another one: winner()", x.winner(), -1);
        Checks.due("that one's turn: pass()", x.pass(), 2);
        Scenes.dueStand("that one's turn", x, 8, 2);
        Checks.due("that one's turn: winner()", x.winner(), 2);
        Checks.due("undo()", x.undo(), 6);
        Scenes.dueStand("undone", x, 6, 1);
    }

    private static void overRefuses() {
        HexIsland x = Scenes.sixes(Scenes.farmsOfTwo(3, 0), 6);
        x.roll(6);
        x.offer(1, 1, 0);
        x.place(TOWN, 12);
        Scenes.dueLegal("over", x);
        Checks.untimely("over: place(0, 11)", () -> x.place(ROAD, 11));
        Checks.untimely("over: place(2, 24)", () -> x.place(TOWN, 24));
        Checks.illegal("over: place(3, 0)", () -> x.place(3, 0));
        Checks.untimely("over: roll(6)", () -> x.roll(6));
        Checks.untimely("over: give(0, 0)", () -> x.give(0, 0));
        Checks.untimely("over: block(0, -1, 0)", () -> x.block(0, -1, 0));
        Checks.untimely("over: bank(0, 1)", () -> x.bank(0, 1));
        Checks.untimely("over: offer(1, 1, 0)", () -> x.offer(1, 1, 0));
        Checks.illegal("over: offer(0, 1, 0)", () -> x.offer(0, 1, 0));
        Checks.untimely("over: accept()", () -> x.accept());
        Checks.untimely("over: buy()", () -> x.buy());
        Checks.untimely("over: play(0, 0, 0)", () -> x.play(0, 0, 0));
        Checks.untimely("over: pass()", () -> x.pass());
        Checks.untimely("over: hex(0, 0, 6)", () -> x.hex(0, 0, 6));
        Checks.untimely("over: players(2, 3)", () -> x.players(2, 3));
        Checks.due("over: forecast(0, 0, 1)", x.forecast(0, 0, 1), 10);
    }

    /** All that can be asked, in one text; some 240 calls. */
    private static String told(HexIsland x) {
        StringBuilder text = new StringBuilder();
        text.append(x.phase()).append(' ').append(x.turn()).append(' ').append(x.winner()).append(' ').append(x.award());
        for (int player = -1; player < 2; player++) {
            text.append("\nplayer ").append(player);
            for (int k = 0; k < 5; k++) {
                text.append(' ').append(x.goods(player, k));
                if (player >= 0) {
                    text.append('/').append(x.cards(player, k)).append('/').append(x.forecast(player, k, 1));
                }
            }
            if (player >= 0) {
                text.append(' ').append(x.points(player)).append(' ').append(x.chain(player));
            }
        }
        for (int spot = 0; spot < 72; spot++) {
            text.append(' ').append(x.owner(0, spot));
            text.append('/').append(spot < 54 ? x.owner(1, spot) : 0);
        }
        for (int i = 0; i < 60; i++) {
            text.append(' ').append(x.legal(i));
        }
        return text.toString();
    }

    /** One object goes the step and takes it back, another one never goes it: they must stand alike. */
    private static void dueUndone(String step, Scene scene, Step go) {
        HexIsland without = scene.make();
        int phase = without.phase();
        String due = told(without);
        HexIsland with = scene.make();
        go.go(with);
        Checks.due("undo of " + step, with.undo(), phase);
        Checks.untimely("undo again of " + step, () -> with.undo());
        Checks.due("undone " + step, told(with), due);
        go.go(with);
        HexIsland other = scene.make();
        go.go(other);
        Checks.due("done again " + step, told(with).equals(told(other)) ? 1 : 0, 1);
    }

    private static void undoOfEachCall() {
        Scene begun = () -> {
            HexIsland x = Scenes.farms();
            x.players(2, 12);
            return x;
        };
        Scene lastHut = () -> Scenes.settle(begun.make(), 12, 19, 34, 50, 41, 60);
        Scene lastRoad = () -> Scenes.settle(lastHut.make(), 24);
        Scene rich = () -> Scenes.sixes(Scenes.farmsOfTwo(12, 043210), 6);
        Scene rolled = () -> after(rich.make(), x -> x.roll(6));
        Scene seven = () -> after(rich.make(), x -> x.roll(7));
        Scene carded = () -> {
            HexIsland x = rolled.make();
            for (int k = 0; k < 4; k++) {
                x.buy();
            }
            x.pass();
            Scenes.turns(x, 8);
            x.roll(2);
            return x;
        };
        dueUndone("a first hut", begun, x -> x.place(HUT, 12));
        dueUndone("a last hut", lastHut, x -> x.place(HUT, 24));
        dueUndone("a last road", lastRoad, x -> x.place(ROAD, 28));
        dueUndone("a roll", rich, x -> x.roll(6));
        dueUndone("a 7", rich, x -> x.roll(7));
        dueUndone("a give", seven, x -> x.give(0, 0));
        dueUndone("a road", rolled, x -> x.place(ROAD, 26));
        dueUndone("a town", rolled, x -> x.place(TOWN, 12));
        dueUndone("a bank", rolled, x -> x.bank(0, 3));
        dueUndone("a buy", rolled, x -> x.buy());
        dueUndone("a pass", rolled, x -> x.pass());
        dueUndone("an accept", () -> after(rolled.make(), x -> x.offer(1, 1, 1 << 16)), x -> x.accept());
        dueUndone("a BLOCKER", carded, x -> x.play(0, 0, 0));
        dueUndone("a block", () -> after(carded.make(), x -> x.play(0, 0, 0)), x -> x.block(8, 1, 0));
        dueUndone("a ROADS", carded, x -> x.play(1, 0, 0));
        dueUndone("a free road", () -> after(carded.make(), x -> x.play(1, 0, 0)), x -> x.place(ROAD, 26));
        dueUndone("a pass of free roads", () -> after(carded.make(), x -> x.play(1, 0, 0)), x -> x.pass());
        dueUndone("a GOODS", carded, x -> x.play(2, 0, 4));
        dueUndone("a MONOPOLY", carded, x -> x.play(3, 4, 4));
    }

    private static HexIsland after(HexIsland x, Step step) {
        step.go(x);
        return x;
    }

    private static void undoRefuses() {
        HexIsland x = Scenes.farms();
        Checks.untimely("new: undo()", () -> x.undo());
        x.players(2, 12);
        Checks.untimely("players: undo()", () -> x.undo());
        Checks.untimely("a thrown call", () -> x.place(TOWN, 0));
        Checks.untimely("a thrown call: undo()", () -> x.undo());
        x.place(HUT, 12);
        Checks.misplaced("a thrown call behind", () -> x.place(ROAD, 71));
        Checks.due("the hut, not the thrown call: undo()", x.undo(), 1);
        Checks.untimely("only once: undo()", () -> x.undo());
        Checks.untimely("a thrown call behind undo", () -> x.pass());
        Checks.untimely("still only once: undo()", () -> x.undo());
        x.place(HUT, 12);
        x.place(ROAD, 19);
        Checks.due("the road: undo()", x.undo(), 2);
        Checks.untimely("the hut too: undo()", () -> x.undo());
        Checks.due("owner(1, 12)", x.owner(1, 12), 0);
        Checks.due("owner(0, 19)", x.owner(0, 19), -1);
    }

    /** What no call tells: the offer, what must be given, what was bought or played now, how many roads are free. */
    private static void undoTakesBackWhatIsHidden() {
        HexIsland x = Scenes.sixes(Scenes.farmsOfTwo(12, 0333), 6);
        x.roll(6);
        x.offer(1, 1, 0);
        Checks.due("undo of an offer", x.undo(), 6);
        Checks.untimely("no offer: accept()", () -> x.accept());
        x.offer(1, 1, 0);
        x.offer(1, 2, Scenes.bundle(0, 0, 0, 1, 0));
        x.undo();
        Checks.due("the offer before: accept()", x.accept(), 1);
        x.undo();
        Checks.due("the offer again: accept()", x.accept(), 1);
        x.offer(1, 1, 0);
        x.pass();
        x.undo();
        Checks.due("the turn goes on: accept()", x.accept(), 1);
        x.buy();
        x.pass();
        x.undo();
        Checks.untimely("still bought now: play(3, 0, 0)", () -> x.play(3, 0, 0));
        x.pass();
        Scenes.turns(x, 2);
        x.roll(2);
        x.buy();
        x.undo();
        Checks.due("an old one: play(3, 0, 0)", x.play(3, 0, 0), 2);
        x.undo();
        Checks.due("not yet played: play(3, 1, 0)", x.play(3, 1, 0), 0);
        x.pass();
        x.undo();
        x.buy();
        Checks.untimely("played now: play(3, 1, 0)", () -> x.play(3, 1, 0));
        HexIsland y = Scenes.turns(Scenes.farmsOfTwo(12, 01), 6, 6);
        y.roll(7);
        y.give(0, 0);
        y.undo();
        Checks.due("six to give: give(0, 1)", y.give(0, 1), 5);
        HexIsland z = Scenes.sixes(Scenes.farmsOfTwo(12, 01), 2);
        z.roll(6);
        z.buy();
        z.pass();
        Scenes.turns(z, 2);
        z.roll(2);
        z.play(1, 0, 0);
        z.place(ROAD, 26);
        z.undo();
        z.place(ROAD, 25);
        Checks.due("one road is still free: phase()", z.phase(), 7);
        z.place(ROAD, 26);
        Checks.due("none is free: phase()", z.phase(), 6);
        z.undo();
        Checks.due("one road is free again: phase()", z.phase(), 7);
        z.place(ROAD, 27);
        Checks.due("none is free: phase()", z.phase(), 6);
    }

    private static void thrownCallsChangeNothing() {
        HexIsland x = Scenes.sixes(Scenes.farmsOfTwo(12, 0333), 2);
        HexIsland y = Scenes.sixes(Scenes.farmsOfTwo(12, 0333), 2);
        x.roll(6);
        y.roll(6);
        Checks.misplaced("place(0, 71)", () -> x.place(ROAD, 71));
        Checks.misplaced("place(1, 0)", () -> x.place(HUT, 0));
        Checks.untimely("bank(0, 1)", () -> x.bank(0, 1));
        Checks.untimely("offer(1, 15, 0)", () -> x.offer(1, 15, 0));
        Checks.untimely("accept()", () -> x.accept());
        Checks.untimely("play(3, 0, 0)", () -> x.play(3, 0, 0));
        Checks.untimely("block(0, -1, 0)", () -> x.block(0, -1, 0));
        Checks.untimely("give(0, 0)", () -> x.give(0, 0));
        Checks.untimely("roll(6)", () -> x.roll(6));
        Checks.due("nothing has changed", told(x), told(y));
        Checks.due("the roll is taken back: undo()", x.undo(), 3);
    }
}
