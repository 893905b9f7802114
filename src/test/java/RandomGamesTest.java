import java.util.ArrayList;
import java.util.List;
import java.util.Random;

/** Games of chosen and of senseless calls, the same ones at each run, played on the class and on the model. */
public final class RandomGamesTest {
    private static final String[] CALLS = {
        "hex", "port", "deck", "players", "place", "roll", "give", "block", "bank", "offer", "accept", "buy", "play",
        "pass", "undo", "phase", "turn", "winner", "goods", "cards", "points", "chain", "award", "owner", "legal",
        "forecast"
    };
    private static final int FIRST_ASKING = 15;
    private static final int[] ODD = {Integer.MIN_VALUE, -2, -1, 0, 1, 2, 3, 4, 5, 6, 7, 8, 12, 18, 19, 53, 54, 71, 72,
        15, 16, 1 << 19, 1 << 20, Integer.MAX_VALUE};
    private static final int GAMES = 1500;

    private final Random random;
    private final Pair pair;
    /** How often out of a hundred a call is senseless, one that asks, or an undo. */
    private final int senseless;
    private final int asking;
    private final int undoing;
    private final boolean hoarding;
    /** What each player is after: 0 roads, 1 huts, 2 towns, 3 cards, 4 anything. */
    private final int[] tempers = new int[4];

    private RandomGamesTest(int seed) {
        random = new Random(seed);
        pair = new Pair("game " + seed);
        senseless = random.nextInt(3) * 8;
        asking = random.nextInt(3) * 15;
        undoing = random.nextInt(4) * 3;
        hoarding = random.nextInt(5) == 0;
        int common = random.nextInt(8);
        for (int player = 0; player < 4; player++) {
            tempers[player] = common < 5 ? common : random.nextInt(5);
        }
    }

    public static void main(String[] args) {
        for (int seed = 0; seed < GAMES; seed++) {
            new RandomGamesTest(seed).run();
        }
        Checks.end();
    }

    private int below(int bound) {
        return random.nextInt(bound);
    }

    private String make(String call, int... args) {
        int[] three = new int[3];
        System.arraycopy(args, 0, three, 0, args.length);
        return pair.make(call, three[0], three[1], three[2], random.nextLong());
    }

    private void run() {
        layOut();
        while (pair.callsLeft() > 80) {
            int chance = below(100);
            if (chance < senseless) {
                makeSenseless(CALLS[below(CALLS.length)]);
            } else if (chance < senseless + asking) {
                makeSenseless(CALLS[FIRST_ASKING + below(CALLS.length - FIRST_ASKING)]);
            } else if (chance < senseless + asking + undoing) {
                make("undo");
            } else {
                makeSensible();
            }
        }
        askAll();
    }

    private void layOut() {
        int style = below(4);
        for (int h = 0; h < 19; h++) {
            int good = style == 0 ? below(2) : below(5);
            int number = style == 1 ? 6 : style == 2 ? 4 + good + good / 3 : 2 + below(5) + 6 * below(2);
            if (below(12) == 0) {
                make("hex", h, 5, 0);
            } else if (below(30) != 0 || style == 3) {
                make("hex", h, good, number);
            }
        }
        for (int k = below(14); k > 0; k--) {
            make("port", below(72), below(6));
        }
        if (below(6) != 0) {
            pair.make("deck", 0, 0, 0, below(2) == 0 ? random.nextLong() : fewKinds());
        }
        make("players", 2 + below(3), below(4) == 0 ? 3 + below(10) : 12);
    }

    private long fewKinds() {
        long kinds = 0;
        for (int k = 0; k < 16; k++) {
            kinds = kinds << 3 | below(4);
        }
        return kinds;
    }

    private int odd() {
        return below(3) == 0 ? ODD[below(ODD.length)] : below(2) == 0 ? below(5) : below(72);
    }

    private void makeSenseless(String call) {
        make(call, odd(), below(3) == 0 ? odd() : below(5), below(3) == 0 ? odd() : below(4));
    }

    private void makeSensible() {
        Model model = pair.model;
        switch (model.phase()) {
            case 1:
            case 2:
                placeAny();
                break;
            case 3:
                make("roll", below(hoarding ? 60 : 14) == 0 ? 7 : likelyNumber());
                break;
            case 4:
                make("give", below(model.count()), below(5));
                break;
            case 5:
                blockAny();
                break;
            case 6:
                act();
                break;
            case 7:
                if (below(8) == 0) {
                    make("pass");
                } else {
                    placeAny();
                }
                break;
            default:
                makeSenseless(CALLS[below(CALLS.length)]);
                make("undo");
                break;
        }
    }

    private int likelyNumber() {
        int number = 2 + below(11);
        return number == 7 ? 6 : number;
    }

    private void placeAny() {
        List<Integer> all = pair.model.allLegal();
        if (all.isEmpty() || below(40) == 0) {
            make("place", below(3), below(72));
            return;
        }
        // The later ones are huts and towns, without which goods are few.
        int pick = below(2) == 0 ? all.get(all.size() - 1 - below(Math.min(4, all.size()))) : all.get(below(all.size()));
        make("place", pick / 100, pick % 100);
    }

    /** Whether the player on turn could place what its temper asks for, and has. */
    private boolean placeByTemper(int temper) {
        List<Integer> fit = new ArrayList<>();
        for (int pick : pair.model.allLegal()) {
            if (pick / 100 == temper || (temper == 2 && pick / 100 == 1)) {
                fit.add(pick);
            }
        }
        if (fit.isEmpty()) {
            return false;
        }
        int pick = fit.get(below(fit.size()));
        make("place", pick / 100, pick % 100);
        return true;
    }

    private void blockAny() {
        int h = below(19);
        List<Integer> victims = pair.model.victims(h);
        int victim = victims.isEmpty() ? -1 : victims.get(below(victims.size()));
        make("block", h, below(12) == 0 ? below(5) - 1 : victim, below(30));
    }

    private void act() {
        int temper = tempers[pair.model.turn()];
        int chance = below(hoarding ? 200 : 100);
        if (chance < 42) {
            actByTemper(below(5) == 0 ? 4 : temper);
        } else if (chance < 49) {
            make("buy");
        } else if (chance < 59) {
            playAny();
        } else if (chance < 65) {
            offerAny();
        } else if (chance < 68) {
            make("accept");
        } else if (chance < 76) {
            bankAny();
        } else {
            make("pass");
        }
    }

    private void actByTemper(int temper) {
        if (temper == 4) {
            if (pair.model.allLegal().isEmpty()) {
                bankAny();
            } else {
                placeAny();
            }
        } else if (temper == 3) {
            if (!make("buy").equals(Model.ISE)) {
                playAny();
            } else {
                bankFor(temper);
            }
        } else if (!placeByTemper(temper)) {
            bankFor(temper);
        }
    }

    /** Gives the bank what there is most of for what a thing still lacks. */
    private void bankFor(int thing) {
        int[] price = Model.price(thing);
        for (int good = 0; good < 5; good++) {
            if (pair.model.hand(pair.model.turn(), good) < price[good]) {
                make("bank", plenty(), good);
                return;
            }
        }
        make("pass");
    }

    private void playAny() {
        List<Integer> kinds = new ArrayList<>();
        for (int kind = 0; kind < 4; kind++) {
            if (!pair.model.cards(pair.model.turn(), kind).equals("0")) {
                kinds.add(kind);
            }
        }
        make("play", kinds.isEmpty() ? below(4) : kinds.get(below(kinds.size())), below(5), below(5));
    }

    private int plenty() {
        int most = 0;
        for (int good = 1; good < 5; good++) {
            if (pair.model.hand(pair.model.turn(), good) > pair.model.hand(pair.model.turn(), most)) {
                most = good;
            }
        }
        return most;
    }

    private void bankAny() {
        make("bank", below(4) == 0 ? below(5) : plenty(), below(5));
    }

    private void offerAny() {
        int to = below(pair.model.count());
        int gives = part(pair.model.turn());
        int gets = part(to);
        make("offer", to, gives, below(6) == 0 ? 0 : gets);
        if (below(2) == 0) {
            make("accept");
        }
    }

    /** Some goods that a player has, or a few more. */
    private int part(int player) {
        int bits = 0;
        for (int good = 0; good < 5; good++) {
            int have = Math.min(15, pair.model.hand(player, good) + (below(25) == 0 ? 1 : 0));
            bits |= below(have + 1) << 4 * good;
        }
        return bits;
    }

    private void askAll() {
        make("phase");
        make("turn");
        make("winner");
        make("award");
        make("legal", 0);
        make("legal", 3);
        for (int player = -1; player < pair.model.count(); player++) {
            make("points", player);
            make("chain", player);
            for (int k = 0; k < 5; k++) {
                make("goods", player, k);
                make("cards", player, k);
            }
        }
    }
}
