import java.util.function.IntSupplier;

/** What an object tells of itself, as a text, so that two objects can be compared. */
final class Look {
    private Look() {
    }

    /** All that can be asked; some 200 calls with two players. */
    static String at(HexIsland x) {
        StringBuilder text = new StringBuilder();
        text.append(x.phase()).append(' ').append(x.turn()).append(' ').append(x.winner()).append(' ').append(x.award());
        text.append("\nbank");
        for (int good = 0; good < 5; good++) {
            text.append(' ').append(x.goods(HexIsland.NONE, good));
        }
        for (int player = 0; isPlayer(x, player); player++) {
            lookAtPlayer(x, player, text);
        }
        text.append("\nowners");
        for (int spot = 0; spot < 72; spot++) {
            text.append(' ').append(x.owner(0, spot));
            text.append('/').append(spot < 54 ? x.owner(1, spot) : 0);
        }
        text.append("\nlegal");
        int last = 0;
        for (int i = 0; last != HexIsland.NONE; i++) {
            last = x.legal(i);
            text.append(' ').append(last);
        }
        return text.toString();
    }

    private static boolean isPlayer(HexIsland x, int player) {
        return !outcome(() -> x.points(player)).startsWith("throws");
    }

    private static void lookAtPlayer(HexIsland x, int player, StringBuilder text) {
        text.append("\nplayer ").append(player).append(": ").append(x.points(player)).append(' ').append(x.chain(player));
        for (int k = 0; k < 5; k++) {
            text.append(' ').append(x.goods(player, k));
            text.append('/').append(x.cards(player, k));
            text.append('/').append(x.forecast(player, k, 1));
        }
    }

    /** The answer, or throws. and the exception's name. */
    static String outcome(IntSupplier call) {
        try {
            return Integer.toString(call.getAsInt());
        } catch (RuntimeException e) {
            return "throws." + e.getClass().getSimpleName();
        }
    }
}
