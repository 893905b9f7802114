import java.util.Arrays;

/**
 * Each call in each phase: "A call that throws changes nothing; of several exceptions the one that
 * stands first in the throws clause is thrown."
 */
public final class RefusalTest {
    private static final int MOST = Integer.MAX_VALUE;
    private static final int LEAST = Integer.MIN_VALUE;
    private static final Refusal[] IN = new Refusal[9];

    private interface Phased {
        void check(Refusal in, int phase);
    }

    public static void main(String[] args) {
        for (int phase = 0; phase < IN.length; phase++) {
            Checks.due("the scene of phase " + phase, Phases.make(phase).phase(), phase);
            IN[phase] = Phases.refusal(phase);
        }
        layoutCalls();
        hexWrong();
        portWrong();
        playersWrong();
        placeWrong();
        placeUntimely();
        placeMisplaced();
        rollWrong();
        giveWrong();
        blockWrong();
        bankWrong();
        offerWrong();
        acceptUntimely();
        buyUntimely();
        playWrong();
        passUntimely();
        undoUntimely();
        askingWrong();
        Checks.end();
    }

    /** Goes through all phases but those named. */
    private static void inAllBut(Phased phased, int... phases) {
        for (int phase = 0; phase < IN.length; phase++) {
            int each = phase;
            if (Arrays.stream(phases).noneMatch(named -> named == each)) {
                phased.check(IN[phase], phase);
            }
        }
    }

    private static void layoutCalls() {
        inAllBut((in, phase) -> {
            Checks.sentence("hex: IllegalStateException when it is not LAYOUT");
            in.untimely("hex(0, 0, 2)", x -> x.hex(0, 0, 2));
            in.untimely("hex(1, 5, 0)", x -> x.hex(1, 5, 0));
            in.untimely("hex(19, 0, 2), no such hex", x -> x.hex(19, 0, 2));
            in.untimely("hex(0, 0, 7), no such number", x -> x.hex(0, 0, 7));
            Checks.sentence("port: IllegalStateException when it is not LAYOUT");
            in.untimely("port(0, 0)", x -> x.port(0, 0));
            in.untimely("port(72, 0), no such edge", x -> x.port(72, 0));
            in.untimely("port(0, 6), no such kind", x -> x.port(0, 6));
            in.untimely("port(30, 0), no shore edge", x -> x.port(30, 0));
            Checks.sentence("deck: IllegalStateException when it is not LAYOUT");
            in.untimely("deck(0)", x -> x.deck(0));
            in.untimely("deck(-1)", x -> x.deck(-1));
            Checks.sentence("players: IllegalStateException when it is not LAYOUT");
            in.untimely("players(2, 3)", x -> x.players(2, 3));
            in.untimely("players(5, 3), no such number", x -> x.players(5, 3));
            in.untimely("players(2, 13), no such target", x -> x.players(2, 13));
        }, Phases.LAYOUT);
    }

    private static void hexWrong() {
        Refusal in = IN[Phases.LAYOUT];
        Checks.sentence("hex: IllegalArgumentException when there is no such hex");
        for (int h : new int[] {-1, 19, LEAST, MOST}) {
            in.illegal("hex(" + h + ", 0, 6)", x -> x.hex(h, 0, 6));
            in.illegal("hex(" + h + ", 5, 0)", x -> x.hex(h, 5, 0));
        }
        Checks.sentence("hex: IllegalArgumentException when good and number are not as said");
        int[][] wrong = {{-1, 6}, {6, 6}, {6, 0}, {-1, 0}, {LEAST, 6}, {MOST, 6}, {0, 1}, {4, 1}, {0, 13}, {4, 13}, {0, 7},
            {4, 7}, {0, 0}, {4, 0}, {0, -1}, {0, LEAST}, {0, MOST}, {5, 1}, {5, -1}, {5, 2}, {5, 6}, {5, 7}, {5, 12}, {5, 13}};
        for (int[] w : wrong) {
            in.illegal("hex(0, " + w[0] + ", " + w[1] + ")", x -> x.hex(0, w[0], w[1]));
        }
    }

    private static void portWrong() {
        Refusal in = IN[Phases.LAYOUT];
        Checks.sentence("port: IllegalArgumentException when there is no such edge or kind");
        for (int edge : new int[] {-1, 72, LEAST, MOST}) {
            in.illegal("port(" + edge + ", 0)", x -> x.port(edge, 0));
        }
        for (int kind : new int[] {-1, 6, LEAST, MOST}) {
            in.illegal("port(0, " + kind + ")", x -> x.port(0, kind));
            in.illegal("port(30, " + kind + "), no shore edge", x -> x.port(30, kind));
            in.illegal("port(9, " + kind + "), a port there", x -> x.port(9, kind));
        }
        Checks.sentence("port: UnsupportedOperationException when the edge is no shore edge, or has a corner with a port");
        in.misplaced("port(30, 0), no shore edge", x -> x.port(30, 0));
        in.misplaced("port(9, 5), a port there", x -> x.port(9, 5));
        in.misplaced("port(5, 0), whose greater corner has a port", x -> x.port(5, 0));
        in.misplaced("port(17, 0), whose less corner has a port", x -> x.port(17, 0));
        Checks.sentence("port: IllegalStateException when there are 9");
        Refusal full = new Refusal("nine ports", RefusalTest::ninePorts);
        full.untimely("port(33, 0)", x -> x.port(33, 0));
        full.untimely("port(-1, 0), no such edge", x -> x.port(-1, 0));
        full.untimely("port(33, 6), no such kind", x -> x.port(33, 6));
        full.untimely("port(30, 0), no shore edge", x -> x.port(30, 0));
        full.untimely("port(9, 0), a port there", x -> x.port(9, 0));
    }

    private static HexIsland ninePorts() {
        HexIsland x = Scenes.farms();
        for (int edge : new int[] {0, 3, 9, 22, 38, 53, 65, 69, 66}) {
            x.port(edge, 5);
        }
        return x;
    }

    private static void playersWrong() {
        Checks.sentence("players: IllegalArgumentException when n is not 2 .. 4 or target not 3 .. 12");
        Refusal in = IN[Phases.LAYOUT];
        for (int n : new int[] {1, 5, 0, -1, LEAST, MOST}) {
            in.illegal("players(" + n + ", 3)", x -> x.players(n, 3));
        }
        for (int target : new int[] {2, 13, 0, -1, LEAST, MOST}) {
            in.illegal("players(2, " + target + ")", x -> x.players(2, target));
        }
    }

    private static void placeWrong() {
        Checks.sentence("place: IllegalArgumentException when there is no such kind or spot");
        int[][] wrong = {{-1, 0}, {3, 0}, {LEAST, 0}, {MOST, 0}, {0, -1}, {0, 72}, {0, LEAST}, {0, MOST}, {1, -1}, {1, 54},
            {1, LEAST}, {1, MOST}, {2, -1}, {2, 54}, {2, 71}, {2, MOST}};
        inAllBut((in, phase) -> {
            for (int[] w : wrong) {
                in.illegal("place(" + w[0] + ", " + w[1] + ")", x -> x.place(w[0], w[1]));
            }
        });
    }

    private static void placeUntimely() {
        Checks.sentence("place: IllegalStateException when the phase is not 1 (a hut), 2 (a road), 6 (any) or 7 (a road)");
        inAllBut((in, phase) -> {
            in.untimely("place(0, 26)", x -> x.place(0, 26));
            in.untimely("place(0, 19), a road there", x -> x.place(0, 19));
        }, Phases.FIRST_ROAD, Phases.TURN, Phases.FREE_ROADS);
        inAllBut((in, phase) -> {
            in.untimely("place(1, 23)", x -> x.place(1, 23));
            in.untimely("place(1, 12), a hut there", x -> x.place(1, 12));
        }, Phases.FIRST_HUT, Phases.TURN);
        inAllBut((in, phase) -> {
            in.untimely("place(2, 12)", x -> x.place(2, 12));
            in.untimely("place(2, 34)", x -> x.place(2, 34));
            in.untimely("place(2, 0), no hut there", x -> x.place(2, 0));
        }, Phases.TURN);
        Checks.sentence("place: IllegalStateException when, in phase 6, not the goods");
        IN[Phases.TURN].untimely("place(2, 12), two ore", x -> x.place(2, 12));
        IN[Phases.TURN].untimely("place(2, 0), two ore, nor a hut there", x -> x.place(2, 0));
    }

    private static void placeMisplaced() {
        Checks.sentence("place: UnsupportedOperationException when it may not be built there");
        Refusal hut = IN[Phases.FIRST_HUT];
        hut.misplaced("place(1, 12), a hut there", x -> x.place(1, 12));
        hut.misplaced("place(1, 7), a hut on a neighbour", x -> x.place(1, 7));
        hut.misplaced("place(1, 8), a hut on a neighbour", x -> x.place(1, 8));
        hut.misplaced("place(1, 17), a hut on a neighbour", x -> x.place(1, 17));
        Checks.sentence("place: UnsupportedOperationException (in phase 2: it is not at the hut that was just set, or"
            + " not free)");
        IN[Phases.FIRST_ROAD].misplaced("place(0, 19), not free", x -> x.place(0, 19));
        IN[Phases.FIRST_ROAD].misplaced("place(0, 25), at a road alone", x -> x.place(0, 25));
        IN[Phases.FIRST_ROAD].misplaced("place(0, 11), at another's hut", x -> x.place(0, 11));
        Refusal second = new Refusal("phase 2, the second hut", () -> {
            HexIsland x = Scenes.farms();
            x.players(2, 12);
            return Scenes.settle(x, 12, 19, 34, 50, 41);
        });
        second.misplaced("place(0, 50), not free", x -> x.place(0, 50));
        second.misplaced("place(0, 42), at the hut before", x -> x.place(0, 42));
        second.misplaced("place(0, 56), at the road before", x -> x.place(0, 56));
        Checks.sentence("place: UnsupportedOperationException when it may not be built there");
        Refusal turn = IN[Phases.TURN];
        turn.misplaced("place(0, 19), an own road there", x -> x.place(0, 19));
        turn.misplaced("place(0, 50), another's road there", x -> x.place(0, 50));
        turn.misplaced("place(0, 71), at nothing", x -> x.place(0, 71));
        turn.misplaced("place(1, 12), a hut there", x -> x.place(1, 12));
        turn.misplaced("place(1, 17), a hut on a neighbour", x -> x.place(1, 17));
        turn.misplaced("place(1, 0), no road", x -> x.place(1, 0));
        Refusal free = IN[Phases.FREE_ROADS];
        free.misplaced("place(0, 26), an own road there", x -> x.place(0, 26));
        free.misplaced("place(0, 50), another's road there", x -> x.place(0, 50));
        free.misplaced("place(0, 71), at nothing", x -> x.place(0, 71));
        Refusal rich = new Refusal("phase 6, goods for a town", RefusalTest::goodsForATown);
        rich.misplaced("place(2, 34), another's hut", x -> x.place(2, 34));
        rich.misplaced("place(2, 23), no hut", x -> x.place(2, 23));
    }

    private static HexIsland goodsForATown() {
        HexIsland x = Scenes.sixes(Scenes.farmsOfTwo(), 2);
        x.roll(6);
        return x;
    }

    private static void rollWrong() {
        inAllBut((in, phase) -> {
            Checks.sentence("roll: IllegalStateException when the phase is not 3");
            in.untimely("roll(6)", x -> x.roll(6));
            in.untimely("roll(7)", x -> x.roll(7));
            in.untimely("roll(1), no such number", x -> x.roll(1));
            in.untimely("roll(13), no such number", x -> x.roll(13));
        }, Phases.ROLL);
        Checks.sentence("roll: IllegalArgumentException when it is not 2 .. 12");
        for (int number : new int[] {1, 13, 0, -1, -7, LEAST, MOST}) {
            IN[Phases.ROLL].illegal("roll(" + number + ")", x -> x.roll(number));
        }
    }

    private static void giveWrong() {
        inAllBut((in, phase) -> {
            Checks.sentence("give: IllegalStateException when the phase is not 4");
            in.untimely("give(0, 3)", x -> x.give(0, 3));
            in.untimely("give(1, 3)", x -> x.give(1, 3));
            in.untimely("give(2, 3), no such player", x -> x.give(2, 3));
            in.untimely("give(0, 5), no such good", x -> x.give(0, 5));
        }, Phases.GIVING);
        Refusal in = IN[Phases.GIVING];
        Checks.sentence("give: IllegalArgumentException when there is no such player or good");
        for (int player : new int[] {-1, 2, 4, LEAST, MOST}) {
            in.illegal("give(" + player + ", 3)", x -> x.give(player, 3));
        }
        for (int good : new int[] {-1, 5, LEAST, MOST}) {
            in.illegal("give(0, " + good + ")", x -> x.give(0, good));
        }
        Checks.sentence("give: IllegalArgumentException when the player must give none");
        Refusal one = new Refusal("phase 4, player 0 alone", () -> {
            HexIsland x = Scenes.turns(Scenes.farmsOfTwo(), 6, 6, 8);
            x.roll(7);
            return x;
        });
        one.illegal("give(1, 3), seven goods", x -> x.give(1, 3));
        Refusal given = new Refusal("phase 4, player 1 has given six", () -> {
            HexIsland x = Phases.make(Phases.GIVING);
            for (int good : new int[] {0, 1, 2, 3, 4}) {
                x.give(1, good);
            }
            return x;
        });
        given.illegal("give(1, 3)", x -> x.give(1, 3));
        Checks.sentence("give: IllegalArgumentException when the player has none of it");
        Refusal without = new Refusal("phase 4, player 0 has no wood left", () -> {
            HexIsland x = Phases.make(Phases.GIVING);
            x.give(0, 0);
            x.give(0, 0);
            return x;
        });
        without.illegal("give(0, 0)", x -> x.give(0, 0));
    }

    private static void blockWrong() {
        inAllBut((in, phase) -> {
            Checks.sentence("block: IllegalStateException when the phase is not 5");
            in.untimely("block(2, -1, 0)", x -> x.block(2, -1, 0));
            in.untimely("block(8, 1, 0)", x -> x.block(8, 1, 0));
            in.untimely("block(19, -1, 0), no such hex", x -> x.block(19, -1, 0));
            in.untimely("block(1, -1, 0), blocked now", x -> x.block(1, -1, 0));
            in.untimely("block(8, 1, -1), no such index", x -> x.block(8, 1, -1));
            in.untimely("block(8, 7, 0), no such player", x -> x.block(8, 7, 0));
        }, Phases.BLOCKING);
        Refusal in = IN[Phases.BLOCKING];
        Checks.sentence("block: IllegalArgumentException when there is no such hex");
        for (int h : new int[] {-1, 19, LEAST, MOST}) {
            in.illegal("block(" + h + ", -1, 0)", x -> x.block(h, -1, 0));
            in.illegal("block(" + h + ", 1, 0)", x -> x.block(h, 1, 0));
        }
        Checks.sentence("block: IllegalArgumentException when it is blocked now");
        in.illegal("block(1, -1, 0)", x -> x.block(1, -1, 0));
        Checks.sentence("block: IllegalArgumentException when index is below 0");
        in.illegal("block(8, 1, -1)", x -> x.block(8, 1, -1));
        in.illegal("block(8, 1, least)", x -> x.block(8, 1, LEAST));
        in.illegal("block(2, -1, -1)", x -> x.block(2, -1, -1));
        Checks.sentence("block: IllegalArgumentException when victim is not such a player");
        in.illegal("block(0, 0, 0), the player itself", x -> x.block(0, 0, 0));
        in.illegal("block(2, 1, 0), nothing beside it", x -> x.block(2, 1, 0));
        in.illegal("block(0, 1, 0), another's hut beside it", x -> x.block(0, 1, 0));
        for (int victim : new int[] {-2, 2, 3, LEAST, MOST}) {
            in.illegal("block(8, " + victim + ", 0)", x -> x.block(8, victim, 0));
            in.illegal("block(2, " + victim + ", 0)", x -> x.block(2, victim, 0));
        }
        Checks.sentence("block: IllegalArgumentException when victim is NONE and there is such a one");
        in.illegal("block(8, -1, 0)", x -> x.block(8, -1, 0));
        in.illegal("block(18, -1, 0)", x -> x.block(18, -1, 0));
        Checks.sentence("block: another player, who has a hut or town beside it and goods");
        Refusal poor = new Refusal("phase 5, player 1 has no goods", RefusalTest::poorVictim);
        poor.illegal("block(8, 1, 0)", x -> x.block(8, 1, 0));
    }

    private static HexIsland poorVictim() {
        HexIsland x = Scenes.farmsOfTwo();
        x.roll(2);
        x.pass();
        x.roll(2);
        x.offer(0, Scenes.bundle(0, 0, 0, 1, 1), 0);
        x.accept();
        x.pass();
        x.roll(7);
        return x;
    }

    private static void bankWrong() {
        int[][] none = {{-1, 0}, {5, 0}, {0, -1}, {0, 5}, {LEAST, 0}, {MOST, 0}, {0, LEAST}, {0, MOST}, {5, 5}, {-1, -1}};
        inAllBut((in, phase) -> {
            Checks.sentence("bank: IllegalArgumentException when there is no such good");
            for (int[] w : none) {
                in.illegal("bank(" + w[0] + ", " + w[1] + ")", x -> x.bank(w[0], w[1]));
            }
            Checks.sentence("bank: IllegalArgumentException when both are the same");
            in.illegal("bank(0, 0)", x -> x.bank(0, 0));
            in.illegal("bank(4, 4)", x -> x.bank(4, 4));
        });
        Checks.sentence("bank: IllegalStateException when the phase is not 6");
        inAllBut((in, phase) -> in.untimely("bank(0, 4)", x -> x.bank(0, 4)), Phases.TURN);
        Checks.sentence("bank: IllegalStateException when the player has not so many");
        IN[Phases.TURN].untimely("bank(4, 0), two ore", x -> x.bank(4, 0));
        IN[Phases.TURN].untimely("bank(2, 0), one wool", x -> x.bank(2, 0));
        Checks.sentence("bank: IllegalStateException when the bank has not so many");
        Refusal empty = new Refusal("phase 6, the bank is empty", RefusalTest::emptyBank);
        empty.untimely("bank(0, 1)", x -> x.bank(0, 1));
    }

    private static HexIsland emptyBank() {
        HexIsland x = Scenes.sixes(Scenes.farmsOfTwo(), 20);
        x.roll(2);
        return x;
    }

    private static void offerWrong() {
        inAllBut((in, phase) -> {
            Checks.sentence("offer: IllegalArgumentException when there is no such player");
            for (int to : new int[] {-1, 2, 4, LEAST, MOST}) {
                in.illegal("offer(" + to + ", 1, 1)", x -> x.offer(to, 1, 1));
            }
            Checks.sentence("offer: IllegalArgumentException when it is the one on turn");
            in.illegal("offer(turn, 1, 1)", x -> x.offer(x.turn(), 1, 1));
            Checks.sentence("offer: IllegalArgumentException when a number has more than 20 bits (is below 0, too)");
            for (int number : new int[] {1 << 20, 1 << 20 | 1, 1 << 30, -1, LEAST, MOST}) {
                in.illegal("offer(other, " + number + ", 1)", x -> x.offer(other(x), number, 1));
                in.illegal("offer(other, 1, " + number + ")", x -> x.offer(other(x), 1, number));
                in.illegal("offer(other, " + number + ", 0)", x -> x.offer(other(x), number, 0));
                in.illegal("offer(other, 0, " + number + ")", x -> x.offer(other(x), 0, number));
            }
            Checks.sentence("offer: IllegalArgumentException when both are 0");
            in.illegal("offer(other, 0, 0)", x -> x.offer(other(x), 0, 0));
        });
        Checks.sentence("offer: IllegalStateException when the phase is not 6");
        inAllBut((in, phase) -> in.untimely("offer(other, 1, 1)", x -> x.offer(other(x), 1, 1)), Phases.LAYOUT, Phases.TURN);
        Checks.sentence("offer: IllegalStateException when the player has not what is given");
        IN[Phases.TURN].untimely("offer(1, 6 wood, 1)", x -> x.offer(1, Scenes.bundle(6, 0, 0, 0, 0), 1));
        IN[Phases.TURN].untimely("offer(1, 3 ore, 0)", x -> x.offer(1, Scenes.bundle(0, 0, 0, 0, 3), 0));
        IN[Phases.TURN].untimely("offer(1, all 20 bits, 1)", x -> x.offer(1, (1 << 20) - 1, 1));
    }

    /** The player of two that is not on turn; 0 in the layout, when none is there. */
    private static int other(HexIsland x) {
        return x.turn() == 0 ? 1 : 0;
    }

    private static void acceptUntimely() {
        Checks.sentence("accept: IllegalStateException when the phase is not 6");
        inAllBut((in, phase) -> in.untimely("accept()", x -> x.accept()), Phases.TURN);
        Refusal blocker = new Refusal("phase 5 with an offer", () -> {
            HexIsland x = Phases.make(Phases.TURN);
            x.play(0, 0, 0);
            return x;
        });
        blocker.untimely("accept()", x -> x.accept());
        Checks.sentence("accept: IllegalStateException when there is no offer");
        Refusal none = new Refusal("phase 6 without an offer", () -> {
            HexIsland x = Phases.make(Phases.TURN);
            x.accept();
            return x;
        });
        none.untimely("accept()", x -> x.accept());
        Checks.sentence("accept: IllegalStateException when one of both has not what is to be given");
        Refusal giver = new Refusal("phase 6, the offering one has spent it", () -> {
            HexIsland x = Phases.make(Phases.TURN);
            x.offer(1, Scenes.bundle(5, 0, 0, 0, 0), 0);
            x.place(Scenes.ROAD, 26);
            return x;
        });
        giver.untimely("accept()", x -> x.accept());
        Refusal taker = new Refusal("phase 6, the other one has it not", () -> {
            HexIsland x = Phases.make(Phases.TURN);
            x.offer(1, Scenes.bundle(1, 0, 0, 0, 0), Scenes.bundle(0, 0, 2, 0, 0));
            return x;
        });
        taker.untimely("accept()", x -> x.accept());
    }

    private static void buyUntimely() {
        Checks.sentence("buy: IllegalStateException when the phase is not 6");
        inAllBut((in, phase) -> in.untimely("buy()", x -> x.buy()), Phases.TURN);
        Checks.sentence("buy: IllegalStateException when the player has not the goods");
        Refusal poor = new Refusal("phase 6, no wool", () -> {
            HexIsland x = Phases.make(Phases.TURN);
            x.buy();
            return x;
        });
        poor.untimely("buy()", x -> x.buy());
        Checks.sentence("buy: IllegalStateException when there are none left");
        Refusal sold = new Refusal("phase 6, all sold", RefusalTest::allCardsSold);
        sold.untimely("buy()", x -> x.buy());
    }

    static HexIsland allCardsSold() {
        HexIsland x = Scenes.sixes(Scenes.farmsOfTwo(), 8);
        for (int k = 0; k < 16; k++) {
            if (k % 8 == 0) {
                Scenes.turns(x, 2);
                Scenes.sixes(x, 8 + x.turn());
                x.roll(6);
            }
            x.buy();
            if (k == 7) {
                x.pass();
            }
        }
        return x;
    }

    private static void playWrong() {
        int[] strange = {-1, 5, LEAST, MOST};
        inAllBut((in, phase) -> {
            Checks.sentence("play: IllegalArgumentException when kind is not 0 .. 3");
            for (int kind : new int[] {-1, 4, 5, LEAST, MOST}) {
                in.illegal("play(" + kind + ", 0, 0)", x -> x.play(kind, 0, 0));
            }
            Checks.sentence("play: IllegalArgumentException when a good that counts is none");
            for (int good : strange) {
                in.illegal("play(2, " + good + ", 0)", x -> x.play(2, good, 0));
                in.illegal("play(2, 0, " + good + ")", x -> x.play(2, 0, good));
                in.illegal("play(3, " + good + ", 0)", x -> x.play(3, good, 0));
            }
        });
        Checks.sentence("play: IllegalStateException when the phase is not 6");
        inAllBut((in, phase) -> {
            for (int kind = 0; kind < 4; kind++) {
                int each = kind;
                in.untimely("play(" + kind + ", 0, 4)", x -> x.play(each, 0, 4));
            }
            in.untimely("play(0, 9, 9)", x -> x.play(0, 9, 9));
            in.untimely("play(1, -9, -9)", x -> x.play(1, -9, -9));
            in.untimely("play(3, 4, -9)", x -> x.play(3, 4, -9));
        }, Phases.TURN);
        Checks.sentence("play: IllegalStateException when one was played in it");
        Refusal played = new Refusal("phase 6, one was played", () -> {
            HexIsland x = Phases.make(Phases.TURN);
            x.play(3, 0, 0);
            return x;
        });
        for (int kind = 0; kind < 4; kind++) {
            int each = kind;
            played.untimely("play(" + kind + ", 0, 4)", x -> x.play(each, 0, 4));
        }
        playWithoutACard();
    }

    private static void playWithoutACard() {
        Checks.sentence("play: IllegalStateException when the player has no such card that was bought before this turn");
        Refusal none = new Refusal("phase 6 without a card", () -> {
            HexIsland x = Scenes.farmsOfTwo();
            x.roll(6);
            return x;
        });
        Refusal fresh = new Refusal("phase 6, all bought now", () -> {
            HexIsland x = Scenes.sixes(Scenes.farmsOfTwo(12, 03210), 4);
            x.roll(6);
            for (int k = 0; k < 4; k++) {
                x.buy();
            }
            return x;
        });
        for (int kind = 0; kind < 4; kind++) {
            int each = kind;
            none.untimely("play(" + kind + ", 0, 4)", x -> x.play(each, 0, 4));
            fresh.untimely("play(" + kind + ", 0, 4)", x -> x.play(each, 0, 4));
        }
    }

    private static void passUntimely() {
        Checks.sentence("pass: IllegalStateException when the phase is not 6 or 7");
        inAllBut((in, phase) -> in.untimely("pass()", x -> x.pass()), Phases.TURN, Phases.FREE_ROADS);
    }

    private static void undoUntimely() {
        Checks.sentence("undo: IllegalStateException when there is none");
        IN[Phases.LAYOUT].untimely("undo()", x -> x.undo());
        Refusal begun = new Refusal("phase 1, nothing set", () -> {
            HexIsland x = Scenes.farms();
            x.players(2, 12);
            return x;
        });
        begun.untimely("undo()", x -> x.undo());
        Checks.sentence("undo: IllegalStateException when it was taken back already");
        for (int phase = 1; phase < IN.length; phase++) {
            int each = phase;
            Refusal undone = new Refusal("undone from phase " + phase, () -> {
                HexIsland x = Phases.make(each);
                x.undo();
                return x;
            });
            undone.untimely("undo()", x -> x.undo());
        }
    }

    private static void askingWrong() {
        int[] noPlayers = {-2, 2, 4, LEAST, MOST};
        int[] noGoods = {-1, 5, LEAST, MOST};
        inAllBut((in, phase) -> {
            for (int player : noPlayers) {
                Checks.sentence("goods, cards, points, chain, forecast: IndexOutOfBoundsException when there is no such"
                    + " player");
                in.outside("goods(" + player + ", 0)", x -> x.goods(player, 0));
                in.outside("cards(" + player + ", 0)", x -> x.cards(player, 0));
                in.outside("points(" + player + ")", x -> x.points(player));
                in.outside("chain(" + player + ")", x -> x.chain(player));
                in.outside("forecast(" + player + ", 0, 1)", x -> x.forecast(player, 0, 1));
                in.outside("forecast(" + player + ", 0, 0), no such number of rolls", x -> x.forecast(player, 0, 0));
            }
            in.outside("cards(-1, 0)", x -> x.cards(-1, 0));
            in.outside("points(-1)", x -> x.points(-1));
            in.outside("chain(-1)", x -> x.chain(-1));
            in.outside("forecast(-1, 0, 1)", x -> x.forecast(-1, 0, 1));
            for (int good : noGoods) {
                Checks.sentence("goods, cards, forecast: IndexOutOfBoundsException when there is no such good or kind");
                in.outside("goods(-1, " + good + ")", x -> x.goods(-1, good));
                in.outside("goods(0, " + good + ")", x -> x.goods(0, good));
                in.outside("cards(0, " + good + ")", x -> x.cards(0, good));
                in.outside("forecast(0, " + good + ", 1)", x -> x.forecast(0, good, 1));
                in.outside("forecast(0, " + good + ", 4), no such number of rolls", x -> x.forecast(0, good, 4));
            }
            Checks.sentence("owner: IndexOutOfBoundsException when there is no such kind or spot");
            int[][] none = {{-1, 0}, {2, 0}, {LEAST, 0}, {MOST, 0}, {0, -1}, {0, 72}, {0, MOST}, {1, -1}, {1, 54}, {1, LEAST}};
            for (int[] w : none) {
                in.outside("owner(" + w[0] + ", " + w[1] + ")", x -> x.owner(w[0], w[1]));
            }
        });
        Checks.sentence("forecast: IllegalArgumentException when rolls is not 1 .. 3");
        inAllBut((in, phase) -> {
            for (int rolls : new int[] {0, 4, -1, LEAST, MOST}) {
                in.illegal("forecast(0, 4, " + rolls + ")", x -> x.forecast(0, 4, rolls));
            }
        }, Phases.LAYOUT);
    }
}
