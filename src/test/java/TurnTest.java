/** Promises 15 to 19: pass, undo, phase, turn and winner; what they refuse by phase is in RefusalTest. */
public final class TurnTest {
    private static final int ROAD = Scenes.ROAD;
    private static final int HUT = Scenes.HUT;
    private static final int TOWN = Scenes.TOWN;
    private static final String WON = "When the player whose turn it is (in phases 3 .. 7) has the target of points or more,"
        + " after any call, that one has WON and it is OVER";

    private interface Scene {
        HexIsland make();
    }

    private interface Step {
        void go(HexIsland x);
    }

    public static void main(String[] args) {
        phasesFirstToLast();
        turnsAndWinners();
        passGoesRound();
        passEndsFreeRoads();
        wonByATown();
        wonByAHut();
        wonByACard();
        wonByTheAward();
        wonByMoreThanTheTarget();
        wonByAFreeRoad();
        wonAtTheTurnsBegin();
        notWonByAnother();
        overRefuses();
        undoOfEachCall();
        undoOfTheLatestAlone();
        undoRefuses();
        undoTakesBackWhatIsHidden();
        thrownCallsChangeNothing();
        Checks.end();
    }

    private static void phasesFirstToLast() {
        Checks.sentence("phase(): The phase");
        for (int phase = 0; phase <= 8; phase++) {
            Checks.due("a scene of phase " + phase + ": phase()", Phases.make(phase).phase(), phase);
        }
    }

    private static void turnsAndWinners() {
        int[] turns = {-1, 1, 1, 0, 0, 0, 0, 0, 0};
        for (int phase = 0; phase <= 8; phase++) {
            Checks.sentence("turn(): The player on turn (in the set-up the one that sets); NONE in LAYOUT");
            Checks.due("a scene of phase " + phase + ": turn()", Phases.make(phase).turn(), turns[phase]);
            Checks.sentence("winner(): Who has won; NONE for nobody");
            Checks.due("a scene of phase " + phase + ": winner()", Phases.make(phase).winner(), phase == 8 ? 0 : -1);
        }
    }

    private static void passGoesRound() {
        Checks.sentence("Phase 7 ends, or the turn does: whose turn it is");
        int[] spots = {0, 0, 1, 2, 2, 4, 51, 66, 52, 68, 53, 70, 21, 33, 26, 38};
        for (int n = 2; n <= 4; n++) {
            HexIsland x = new HexIsland();
            x.players(n, 12);
            for (int k = 0; k < 4 * n; k++) {
                x.place(k % 2 == 0 ? HUT : ROAD, spots[k]);
            }
            for (int k = 1; k <= 3 * n; k++) {
                x.roll(2);
                Checks.due(n + " players: pass()", x.pass(), k % n);
                Scenes.dueStand(n + " players: pass()", x, 3, k % n);
            }
        }
    }

    private static void passEndsFreeRoads() {
        Checks.sentence("Phase 7 ends, or the turn does: whose turn it is");
        HexIsland x = Phases.make(Phases.FREE_ROADS);
        Checks.due("phase 7: pass()", x.pass(), 0);
        Scenes.dueStand("phase 7: pass()", x, 6, 0);
        Checks.due("the offer stands: accept()", x.accept(), 2);
        Checks.due("phase 6: pass()", x.pass(), 1);
        Scenes.dueStand("phase 6: pass()", x, 3, 1);
    }

    private static void wonByATown() {
        Checks.sentence(WON);
        HexIsland x = Scenes.sixes(Scenes.farmsOfTwo(3, 0), 2);
        x.roll(2);
        Checks.due("two points: winner()", x.winner(), -1);
        Checks.due("three points: place(2, 12)", x.place(TOWN, 12), 3);
        Scenes.dueStand("three points", x, 8, 0);
        Checks.due("three points: winner()", x.winner(), 0);
        Checks.due("undo()", x.undo(), 6);
        Checks.due("undone: winner()", x.winner(), -1);
        Checks.due("undone: points(0)", x.points(0), 2);
    }

    private static void wonByAHut() {
        Checks.sentence(WON);
        HexIsland x = Scenes.rolled(Scenes.sixes(Scenes.farmsOfTwo(3, 0), 2), 6);
        x.place(ROAD, 26);
        Checks.due("two of three: phase()", x.phase(), 6);
        Checks.due("three points: place(1, 23)", x.place(HUT, 23), 3);
        Scenes.dueStand("three points", x, 8, 0);
        Checks.due("three points: winner()", x.winner(), 0);
    }

    private static void wonByACard() {
        Checks.sentence(WON);
        HexIsland x = Scenes.turns(Scenes.farmsOfTwo(4, 0454), 8, 8, 8);
        x.roll(8);
        x.buy();
        Checks.due("three of four: winner()", x.winner(), -1);
        Checks.due("three of four: phase()", x.phase(), 6);
        Checks.due("four points: buy()", x.buy(), 14);
        Scenes.dueStand("four points", x, 8, 1);
        Checks.due("four points: winner()", x.winner(), 1);
    }

    private static void wonByTheAward() {
        Checks.sentence(WON);
        HexIsland x = Scenes.sixes(Scenes.farmsOfTwo(4, 0), 2);
        x.roll(6);
        Scenes.roads(x, 27, 26);
        Checks.due("chain of four: winner()", x.winner(), -1);
        Checks.due("chain of five: place(0, 11)", x.place(ROAD, 11), 4);
        Checks.due("chain of five: winner()", x.winner(), 0);
        Checks.due("chain of five: phase()", x.phase(), 8);
    }

    private static void wonByMoreThanTheTarget() {
        Checks.sentence("has the target of points or more");
        HexIsland x = Scenes.rolled(Scenes.sixes(Scenes.farmsOfTwo(3, 0), 2), 6);
        Scenes.roads(x, 27, 26);
        Checks.due("two of three: winner()", x.winner(), -1);
        Checks.due("four of three: place(0, 11)", x.place(ROAD, 11), 4);
        Scenes.dueStand("four of three", x, 8, 0);
        Checks.due("four of three: winner()", x.winner(), 0);
    }

    private static void wonByAFreeRoad() {
        Checks.sentence(WON);
        HexIsland x = Scenes.sixes(Scenes.farmsOfTwo(4, 01), 2);
        x.roll(6);
        x.buy();
        Scenes.roads(x, 27, 26);
        x.pass();
        Scenes.turns(x, 2);
        x.roll(2);
        x.play(1, 0, 0);
        Checks.due("a free road: place(0, 11)", x.place(ROAD, 11), 4);
        Scenes.dueStand("a free road", x, 8, 0);
        Checks.due("undo()", x.undo(), 7);
        Checks.due("another free road: place(0, 36)", x.place(ROAD, 36), 4);
        Scenes.dueStand("another free road", x, 8, 0);
    }

    /** Player 1 has taken the award from player 0 for player 2, who has then five points, but not the turn. */
    private static HexIsland anotherHasTheTarget() {
        HexIsland x = Scenes.farms();
        x.players(3, 5);
        Scenes.settle(x, 12, 19, 34, 50, 25, 31, 2, 5, 41, 60, 24, 28);
        Scenes.turns(x, 6, 8, 9, 6, 8, 9, 6, 8, 9, 6, 2, 9);
        x.roll(2);
        Scenes.roads(x, 27, 26, 11, 6);
        x.pass();
        x.roll(2);
        x.offer(2, Scenes.bundle(0, 0, 1, 1, 0), 0);
        x.accept();
        Scenes.roads(x, 42, 35);
        x.pass();
        x.roll(2);
        Scenes.roads(x, 22, 17, 9);
        Checks.due("third hut: place(1, 15)", x.place(HUT, 15), 3);
        x.pass();
        Scenes.turns(x, 2);
        x.roll(2);
        Checks.due("place(1, 23)", x.place(HUT, 23), 3);
        return x;
    }

    private static void wonAtTheTurnsBegin() {
        Checks.sentence(WON);
        HexIsland x = anotherHasTheTarget();
        Checks.due("that one's turn: pass()", x.pass(), 2);
        Scenes.dueStand("that one's turn", x, 8, 2);
        Checks.due("that one's turn: winner()", x.winner(), 2);
        Checks.due("undo()", x.undo(), 6);
        Scenes.dueStand("undone", x, 6, 1);
        Checks.due("undone: winner()", x.winner(), -1);
    }

    private static void notWonByAnother() {
        Checks.sentence("When the player whose turn it is has the target of points or more");
        HexIsland x = anotherHasTheTarget();
        Checks.due("for another one: award()", x.award(), 2);
        Checks.due("for another one: points(2)", x.points(2), 5);
        Scenes.dueStand("for another one", x, 6, 1);
        Checks.due("for another one: winner()", x.winner(), -1);
        x.undo();
        Checks.due("not for another one: points(2)", x.points(2), 3);
        Checks.due("that one's turn: pass()", x.pass(), 2);
        Scenes.dueStand("that one's turn", x, 3, 2);
    }

    private static void overRefuses() {
        Checks.sentence("that one has WON and it is OVER");
        HexIsland x = Scenes.sixes(Scenes.farmsOfTwo(3, 0), 6);
        x.roll(6);
        x.offer(1, 1, 0);
        x.place(TOWN, 12);
        Scenes.dueLegal("over", x);
        Checks.untimely("over: place(0, 11)", () -> x.place(ROAD, 11));
        Checks.untimely("over: place(2, 24)", () -> x.place(TOWN, 24));
        Checks.illegal("over: place(3, 0)", () -> x.place(3, 0));
        Checks.untimely("over: roll(6)", () -> x.roll(6));
        Checks.untimely("over: give(0, 0)", () -> x.give(0, 0));
        Checks.untimely("over: block(0, -1, 0)", () -> x.block(0, -1, 0));
        Checks.untimely("over: bank(0, 1)", () -> x.bank(0, 1));
        Checks.untimely("over: offer(1, 1, 0)", () -> x.offer(1, 1, 0));
        Checks.illegal("over: offer(0, 1, 0)", () -> x.offer(0, 1, 0));
        Checks.untimely("over: accept()", () -> x.accept());
        Checks.untimely("over: buy()", () -> x.buy());
        Checks.untimely("over: play(0, 0, 0)", () -> x.play(0, 0, 0));
        Checks.untimely("over: pass()", () -> x.pass());
        Checks.untimely("over: hex(0, 0, 6)", () -> x.hex(0, 0, 6));
        Checks.untimely("over: players(2, 3)", () -> x.players(2, 3));
        Checks.due("over: forecast(0, 0, 1)", x.forecast(0, 0, 1), 10);
    }

    /** Objects that went the step and took it back, once or before going it anew, must stand as others that did not. */
    private static void dueUndone(String step, Scene scene, Step go) {
        HexIsland without = scene.make();
        int phase = without.phase();
        HexIsland with = scene.make();
        go.go(with);
        Checks.due("undo of " + step, with.undo(), phase);
        Checks.untimely("undo again of " + step, () -> with.undo());
        Checks.due("undone " + step, Look.at(with), Look.at(without));
        HexIsland again = scene.make();
        go.go(again);
        again.undo();
        go.go(again);
        HexIsland once = scene.make();
        go.go(once);
        Checks.due("done again " + step, Look.at(again), Look.at(once));
    }

    private static void undoOfEachCall() {
        Checks.sentence("The latest of the calls from place on above that did not throw is taken back, all being as"
            + " before it: the phase then");
        Scene begun = () -> {
            HexIsland x = Scenes.farms();
            x.players(2, 12);
            return x;
        };
        Scene lastHut = () -> Scenes.settle(begun.make(), 12, 19, 34, 50, 41, 60);
        Scene lastRoad = () -> Scenes.settle(lastHut.make(), 24);
        Scene rich = () -> Scenes.sixes(Scenes.farmsOfTwo(12, 043210), 6);
        Scene rolled = () -> after(rich.make(), x -> x.roll(6));
        Scene seven = () -> after(rich.make(), x -> x.roll(7));
        Scene carded = () -> {
            HexIsland x = rolled.make();
            for (int k = 0; k < 4; k++) {
                x.buy();
            }
            x.pass();
            Scenes.turns(x, 8);
            x.roll(2);
            return x;
        };
        dueUndone("a first hut", begun, x -> x.place(HUT, 12));
        dueUndone("a last hut", lastHut, x -> x.place(HUT, 24));
        dueUndone("a last road", lastRoad, x -> x.place(ROAD, 28));
        dueUndone("a roll", rich, x -> x.roll(6));
        dueUndone("a 7", rich, x -> x.roll(7));
        dueUndone("a give", seven, x -> x.give(0, 0));
        dueUndone("a road", rolled, x -> x.place(ROAD, 26));
        dueUndone("a town", rolled, x -> x.place(TOWN, 12));
        dueUndone("a bank", rolled, x -> x.bank(0, 3));
        dueUndone("a buy", rolled, x -> x.buy());
        dueUndone("a pass", rolled, x -> x.pass());
        dueUndone("an accept", () -> after(rolled.make(), x -> x.offer(1, 1, 1 << 16)), x -> x.accept());
        dueUndone("a BLOCKER", carded, x -> x.play(0, 0, 0));
        dueUndone("a block", () -> after(carded.make(), x -> x.play(0, 0, 0)), x -> x.block(8, 1, 0));
        dueUndone("a ROADS", carded, x -> x.play(1, 0, 0));
        dueUndone("a free road", () -> after(carded.make(), x -> x.play(1, 0, 0)), x -> x.place(ROAD, 26));
        dueUndone("a pass of free roads", () -> after(carded.make(), x -> x.play(1, 0, 0)), x -> x.pass());
        dueUndone("a GOODS", carded, x -> x.play(2, 0, 4));
        dueUndone("a MONOPOLY", carded, x -> x.play(3, 4, 4));
    }

    private static HexIsland after(HexIsland x, Step step) {
        step.go(x);
        return x;
    }

    private static void undoOfTheLatestAlone() {
        Checks.sentence("The latest of the calls from place on above that did not throw is taken back");
        HexIsland x = Scenes.farmsOfTwo();
        x.roll(6);
        x.buy();
        Look.at(x);
        Checks.untimely("a call that throws: roll(6)", () -> x.roll(6));
        Checks.illegal("a call that throws: place(3, 0)", () -> x.place(3, 0));
        Checks.due("the card, not what was asked or thrown: undo()", x.undo(), 6);
        Scenes.dueHand("the card", x, 0, 1, 1, 1, 2, 2);
        Checks.untimely("not the roll, too: undo()", () -> x.undo());
        Scenes.dueHand("not the roll, too", x, 0, 1, 1, 1, 2, 2);
        x.pass();
        Checks.due("a later call: undo()", x.undo(), 6);
        Scenes.dueStand("a later call", x, 6, 0);
        Checks.untimely("not twice: undo()", () -> x.undo());
    }

    private static void undoRefuses() {
        Checks.sentence("undo: IllegalStateException when there is none, or it was taken back already");
        HexIsland x = Scenes.farms();
        Checks.untimely("new: undo()", () -> x.undo());
        x.players(2, 12);
        Checks.untimely("players: undo()", () -> x.undo());
        Checks.untimely("a thrown call", () -> x.place(TOWN, 0));
        Checks.untimely("a thrown call: undo()", () -> x.undo());
        x.place(HUT, 12);
        Checks.misplaced("a thrown call behind", () -> x.place(ROAD, 71));
        Checks.due("the hut, not the thrown call: undo()", x.undo(), 1);
        Checks.untimely("only once: undo()", () -> x.undo());
        Checks.untimely("a thrown call behind undo", () -> x.pass());
        Checks.untimely("still only once: undo()", () -> x.undo());
        x.place(HUT, 12);
        x.place(ROAD, 19);
        Checks.due("the road: undo()", x.undo(), 2);
        Checks.untimely("the hut too: undo()", () -> x.undo());
        Checks.due("owner(1, 12)", x.owner(1, 12), 0);
        Checks.due("owner(0, 19)", x.owner(0, 19), -1);
    }

    /** What no call tells: the offer, what must be given, what was bought or played now, how many roads are free. */
    private static void undoTakesBackWhatIsHidden() {
        Checks.sentence("all being as before it");
        HexIsland x = Scenes.sixes(Scenes.farmsOfTwo(12, 0333), 6);
        x.roll(6);
        x.offer(1, 1, 0);
        Checks.due("undo of an offer", x.undo(), 6);
        Checks.untimely("no offer: accept()", () -> x.accept());
        x.offer(1, 1, 0);
        x.offer(1, 2, Scenes.bundle(0, 0, 0, 1, 0));
        x.undo();
        Checks.due("the offer before: accept()", x.accept(), 1);
        x.undo();
        Checks.due("the offer again: accept()", x.accept(), 1);
        x.offer(1, 1, 0);
        x.pass();
        x.undo();
        Checks.due("the turn goes on: accept()", x.accept(), 1);
        x.buy();
        x.pass();
        x.undo();
        Checks.untimely("still bought now: play(3, 0, 0)", () -> x.play(3, 0, 0));
        x.pass();
        Scenes.turns(x, 2);
        x.roll(2);
        x.buy();
        x.undo();
        Checks.due("an old one: play(3, 0, 0)", x.play(3, 0, 0), 2);
        x.undo();
        Checks.due("not yet played: play(3, 1, 0)", x.play(3, 1, 0), 0);
        x.pass();
        x.undo();
        x.buy();
        Checks.untimely("played now: play(3, 1, 0)", () -> x.play(3, 1, 0));
        HexIsland y = Scenes.turns(Scenes.farmsOfTwo(12, 01), 6, 6);
        y.roll(7);
        y.give(0, 0);
        y.undo();
        Checks.due("six to give: give(0, 1)", y.give(0, 1), 5);
        HexIsland z = Scenes.sixes(Scenes.farmsOfTwo(12, 01), 2);
        z.roll(6);
        z.buy();
        z.pass();
        Scenes.turns(z, 2);
        z.roll(2);
        z.play(1, 0, 0);
        z.place(ROAD, 26);
        z.undo();
        z.place(ROAD, 25);
        Checks.due("one road is still free: phase()", z.phase(), 7);
        z.place(ROAD, 26);
        Checks.due("none is free: phase()", z.phase(), 6);
        z.undo();
        Checks.due("one road is free again: phase()", z.phase(), 7);
        z.place(ROAD, 27);
        Checks.due("none is free: phase()", z.phase(), 6);
    }

    private static void thrownCallsChangeNothing() {
        Checks.sentence("A call that throws changes nothing");
        HexIsland x = Scenes.sixes(Scenes.farmsOfTwo(12, 0333), 2);
        HexIsland y = Scenes.sixes(Scenes.farmsOfTwo(12, 0333), 2);
        x.roll(6);
        y.roll(6);
        Checks.misplaced("place(0, 71)", () -> x.place(ROAD, 71));
        Checks.misplaced("place(1, 0)", () -> x.place(HUT, 0));
        Checks.untimely("bank(0, 1)", () -> x.bank(0, 1));
        Checks.untimely("offer(1, 15, 0)", () -> x.offer(1, 15, 0));
        Checks.untimely("accept()", () -> x.accept());
        Checks.untimely("play(3, 0, 0)", () -> x.play(3, 0, 0));
        Checks.untimely("block(0, -1, 0)", () -> x.block(0, -1, 0));
        Checks.untimely("give(0, 0)", () -> x.give(0, 0));
        Checks.untimely("roll(6)", () -> x.roll(6));
        Checks.due("nothing has changed", Look.at(x), Look.at(y));
        Checks.due("the roll is taken back: undo()", x.undo(), 3);
    }
}
