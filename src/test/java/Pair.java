/** The class and the model side by side: each call goes to both, and their answers must be the same. */
final class Pair {
    private interface Answer {
        Object get();
    }

    /** An object is used for at most so many calls. */
    static final int MOST_CALLS = 512;

    final HexIsland real = new HexIsland();
    final Model model = new Model();
    private final String name;
    private int calls = 0;

    Pair(String name) {
        this.name = name;
    }

    int callsLeft() {
        return MOST_CALLS - calls;
    }

    private String compare(String call, String want, Answer answer) {
        calls++;
        String got;
        try {
            got = String.valueOf(answer.get());
        } catch (RuntimeException e) {
            got = "throws." + e.getClass().getSimpleName();
        }
        Checks.due(name + ", call " + calls + ": " + call, got, want);
        return got;
    }

    String make(String call, int a, int b, int c, long bits) {
        String told = call + "(" + a + ", " + b + ", " + c + ", " + bits + ")";
        switch (call) {
            case "hex": return compare(told, model.hex(a, b, c), () -> done(() -> real.hex(a, b, c)));
            case "port": return compare(told, model.port(a, b), () -> real.port(a, b));
            case "deck": return compare(told, model.deck(bits), () -> done(() -> real.deck(bits)));
            case "players": return compare(told, model.players(a, b), () -> done(() -> real.players(a, b)));
            case "place": return compare(told, model.place(a, b), () -> real.place(a, b));
            case "roll": return compare(told, model.roll(a), () -> real.roll(a));
            case "give": return compare(told, model.give(a, b), () -> real.give(a, b));
            case "block": return compare(told, model.block(a, b, c), () -> real.block(a, b, c));
            case "bank": return compare(told, model.bank(a, b), () -> real.bank(a, b));
            case "offer": return compare(told, model.offer(a, b, c), () -> done(() -> real.offer(a, b, c)));
            case "accept": return compare(told, model.accept(), () -> real.accept());
            case "buy": return compare(told, model.buy(), () -> real.buy());
            case "play": return compare(told, model.play(a, b, c), () -> real.play(a, b, c));
            case "pass": return compare(told, model.pass(), () -> real.pass());
            case "undo": return compare(told, model.undo(), () -> real.undo());
            case "phase": return compare(told, "" + model.phase(), () -> real.phase());
            case "turn": return compare(told, "" + model.turn(), () -> real.turn());
            case "winner": return compare(told, model.winner(), () -> real.winner());
            case "goods": return compare(told, model.goods(a, b), () -> real.goods(a, b));
            case "cards": return compare(told, model.cards(a, b), () -> real.cards(a, b));
            case "points": return compare(told, model.points(a), () -> real.points(a));
            case "chain": return compare(told, model.chain(a), () -> real.chain(a));
            case "award": return compare(told, model.award(), () -> real.award());
            case "owner": return compare(told, model.owner(a, b), () -> real.owner(a, b));
            case "legal": return compare(told, model.legal(a), () -> real.legal(a));
            case "forecast": return compare(told, model.forecast(a, b, c), () -> real.forecast(a, b, c));
            default: throw new IllegalArgumentException(call);
        }
    }

    private static String done(Checks.Call body) {
        body.run();
        return Model.OK;
    }
}
