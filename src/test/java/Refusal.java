import java.util.function.IntSupplier;

/**
 * Calls that must be refused in a scene and leave no trace there: an object on which one was tried
 * must stand, go on and be undone as one on which it never was.
 */
final class Refusal {
    interface Scene {
        HexIsland make();
    }

    interface Step {
        void go(HexIsland x);
    }

    private final String name;
    private final Scene scene;
    private final String look;
    private final String wayOn;
    private final String undone;

    Refusal(String name, Scene scene) {
        this.name = name;
        this.scene = scene;
        HexIsland x = scene.make();
        look = Look.at(x);
        wayOn = goOn(x);
        undone = undo(scene.make());
    }

    void illegal(String call, Step step) {
        due(call, IllegalArgumentException.class, step);
    }

    void untimely(String call, Step step) {
        due(call, IllegalStateException.class, step);
    }

    void misplaced(String call, Step step) {
        due(call, UnsupportedOperationException.class, step);
    }

    void outside(String call, Step step) {
        due(call, IndexOutOfBoundsException.class, step);
    }

    private void due(String call, Class<? extends RuntimeException> want, Step step) {
        String told = name + ": " + call;
        HexIsland x = scene.make();
        Checks.refused(told, want, () -> step.go(x));
        Checks.due(told + " changes nothing that can be asked", Look.at(x).equals(look) ? 1 : 0, 1);
        Checks.due(told + " changes nothing of what comes then", goOn(x).equals(wayOn) ? 1 : 0, 1);
        HexIsland y = scene.make();
        Checks.refused(told, want, () -> step.go(y));
        Checks.due(told + " changes nothing of what undo does", undo(y).equals(undone) ? 1 : 0, 1);
    }

    private static String undo(HexIsland x) {
        return Look.outcome(x::undo) + "\n" + Look.at(x);
    }

    /**
     * Calls of all sorts that show what can't be asked: ports, deck, the offer, what is to be given,
     * which hex is blocked, what was bought or played in the turn, how many roads are free.
     */
    private static String goOn(HexIsland x) {
        StringBuilder text = new StringBuilder();
        say(text, () -> x.port(0, 3));
        say(text, () -> x.port(5, 1));
        say(text, () -> {
            x.players(2, 5);
            return 0;
        });
        int[] spots = {12, 19, 34, 50, 41, 60, 24, 28};
        for (int k = 0; k < spots.length; k++) {
            int kind = (k + 1) % 2;
            int spot = spots[k];
            say(text, () -> x.place(kind, spot));
        }
        say(text, x::accept);
        for (int k = 0; k < 10; k++) {
            int player = k / 5;
            int good = k % 5;
            say(text, () -> x.give(player, good));
        }
        say(text, () -> x.block(1, -1, 0));
        say(text, () -> x.block(13, 1, 2));
        for (int k = 3; k >= 0; k--) {
            int kind = k;
            say(text, () -> x.play(kind, 3, 4));
        }
        say(text, () -> x.place(0, 11));
        say(text, () -> x.place(0, 12));
        say(text, x::pass);
        say(text, x::pass);
        say(text, () -> x.roll(6));
        say(text, () -> x.bank(0, 1));
        say(text, () -> x.bank(4, 2));
        say(text, x::buy);
        say(text, x::pass);
        say(text, () -> x.roll(8));
        say(text, x::buy);
        for (int k = 0; k < 10; k++) {
            int player = k / 5;
            int kind = k % 5;
            say(text, () -> x.goods(player, kind));
            say(text, () -> x.cards(player, kind));
        }
        return text.toString();
    }

    private static void say(StringBuilder text, IntSupplier call) {
        text.append(Look.outcome(call)).append(' ');
    }
}
