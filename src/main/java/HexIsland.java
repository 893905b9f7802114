import java.util.Arrays;

/**
 * The referee of a game of roads, huts and towns on an island of nineteen hexes. The numbering of
 * hexes, corners and edges and all rules are those of the document; README.md has a short tour.
 */
public final class HexIsland {
    public static final int NONE = -1;

    private static final int HEXES = 19;
    private static final int CORNERS = 54;
    private static final int EDGES = 72;
    private static final int CORNERS_OF_HEX = 6;
    private static final int EDGES_OF_CORNER = 3;

    private static final int GOODS = 5;
    private static final int BARREN = 5;
    private static final int OF_EACH_GOOD = 19;

    private static final int ANY_GOOD_PORT = 5;
    private static final int PORT_KINDS = 6;
    private static final int MOST_PORTS = 9;

    private static final int LEAST_PLAYERS = 2;
    private static final int MOST_PLAYERS = 4;
    private static final int LEAST_TARGET = 3;
    private static final int MOST_TARGET = 12;

    /** The bank's goods lie in the row behind those of the players. */
    private static final int BANK = MOST_PLAYERS;

    private static final int ROAD = 0;
    private static final int HUT = 1;
    private static final int TOWN = 2;
    private static final int CARD = 3;
    private static final int PIECE_KINDS = 3;
    private static final int MOST_ROADS = 15;
    private static final int MOST_HUTS = 5;
    private static final int MOST_TOWNS = 4;
    private static final int TOWN_MARK = 8;

    private static final int LAYOUT = 0;
    private static final int FIRST_HUT = 1;
    private static final int FIRST_ROAD = 2;
    private static final int ROLL = 3;
    private static final int GIVING = 4;
    private static final int BLOCKING = 5;
    private static final int TURN = 6;
    private static final int FREE_ROADS = 7;
    private static final int OVER = 8;

    private static final int BLOCKER_CARD = 0;
    private static final int ROADS_CARD = 1;
    private static final int GOODS_CARD = 2;
    private static final int MONOPOLY_CARD = 3;
    private static final int POINT_CARD = 4;
    private static final int CARD_KINDS = 5;
    private static final int DECK_SIZE = 16;
    private static final int ROADS_OF_A_CARD = 2;

    private static final int LEAST_NUMBER = 2;
    private static final int MOST_NUMBER = 12;
    private static final int SEVEN = 7;
    private static final int MOST_GOODS_KEPT = 7;
    private static final int DICE_ROLLS = 36;
    private static final int MOST_FORECAST_ROLLS = 3;

    private static final int AWARD_CHAIN = 5;
    private static final int AWARD_POINTS = 2;

    private static final int BITS_OF_A_BUNDLE = 20;
    private static final int BITS_OF_A_GOOD = 4;
    private static final int MOST_OF_A_GOOD = 15;

    /** Five numbers for each of road, hut, town and card: what it costs of each good. */
    private static final int[] PRICES = {
        1, 1, 0, 0, 0,
        1, 1, 1, 1, 0,
        0, 0, 0, 2, 3,
        0, 0, 1, 1, 1
    };

    /** Six corners for each hex. */
    private static final int[] HEX_CORNERS = {
        0, 3, 4, 7, 8, 12,
        1, 4, 5, 8, 9, 13,
        2, 5, 6, 9, 10, 14,
        7, 11, 12, 16, 17, 22,
        8, 12, 13, 17, 18, 23,
        9, 13, 14, 18, 19, 24,
        10, 14, 15, 19, 20, 25,
        16, 21, 22, 27, 28, 33,
        17, 22, 23, 28, 29, 34,
        18, 23, 24, 29, 30, 35,
        19, 24, 25, 30, 31, 36,
        20, 25, 26, 31, 32, 37,
        28, 33, 34, 38, 39, 43,
        29, 34, 35, 39, 40, 44,
        30, 35, 36, 40, 41, 45,
        31, 36, 37, 41, 42, 46,
        39, 43, 44, 47, 48, 51,
        40, 44, 45, 48, 49, 52,
        41, 45, 46, 49, 50, 53
    };

    /** Two corners for each edge. */
    private static final int[] EDGE_CORNERS = {
        0, 3, 0, 4, 1, 4, 1, 5, 2, 5, 2, 6,
        3, 7, 4, 8, 5, 9, 6, 10, 7, 11, 7, 12,
        8, 12, 8, 13, 9, 13, 9, 14, 10, 14, 10, 15,
        11, 16, 12, 17, 13, 18, 14, 19, 15, 20, 16, 21,
        16, 22, 17, 22, 17, 23, 18, 23, 18, 24, 19, 24,
        19, 25, 20, 25, 20, 26, 21, 27, 22, 28, 23, 29,
        24, 30, 25, 31, 26, 32, 27, 33, 28, 33, 28, 34,
        29, 34, 29, 35, 30, 35, 30, 36, 31, 36, 31, 37,
        32, 37, 33, 38, 34, 39, 35, 40, 36, 41, 37, 42,
        38, 43, 39, 43, 39, 44, 40, 44, 40, 45, 41, 45,
        41, 46, 42, 46, 43, 47, 44, 48, 45, 49, 46, 50,
        47, 51, 48, 51, 48, 52, 49, 52, 49, 53, 50, 53
    };

    /** Three edges for each corner, the third one NONE where there are two. */
    private static final int[] CORNER_EDGES = {
        0, 1, NONE, 2, 3, NONE, 4, 5, NONE, 0, 6, NONE, 1, 2, 7, 3, 4, 8,
        5, 9, NONE, 6, 10, 11, 7, 12, 13, 8, 14, 15, 9, 16, 17, 10, 18, NONE,
        11, 12, 19, 13, 14, 20, 15, 16, 21, 17, 22, NONE, 18, 23, 24, 19, 25, 26,
        20, 27, 28, 21, 29, 30, 22, 31, 32, 23, 33, NONE, 24, 25, 34, 26, 27, 35,
        28, 29, 36, 30, 31, 37, 32, 38, NONE, 33, 39, NONE, 34, 40, 41, 35, 42, 43,
        36, 44, 45, 37, 46, 47, 38, 48, NONE, 39, 40, 49, 41, 42, 50, 43, 44, 51,
        45, 46, 52, 47, 48, 53, 49, 54, NONE, 50, 55, 56, 51, 57, 58, 52, 59, 60,
        53, 61, NONE, 54, 55, 62, 56, 57, 63, 58, 59, 64, 60, 61, 65, 62, 66, NONE,
        63, 67, 68, 64, 69, 70, 65, 71, NONE, 66, 67, NONE, 68, 69, NONE, 70, 71, NONE
    };

    /** All that the calls from place on change, so that undo can put it back whole. */
    private static final class State {
        int phase;
        int turn;
        /** How many players have set a hut and its road in the set-up, each counted twice. */
        int settled;
        /** The corner of the hut that was set last in the set-up. */
        int lastHut;
        int blocked;
        int drawn;
        int freeRoads;
        /** NONE when there is no offer. */
        int offerTo;
        int offerGives;
        int offerGets;
        int award;
        boolean played;
        final int[] roads;
        /** A player, with TOWN_MARK more for a town. */
        final int[] buildings;
        final int[] hands;
        final int[] cards;
        /** The cards of each kind that were bought in this turn. */
        final int[] fresh;
        final int[] toGive;

        State() {
            phase = LAYOUT;
            turn = NONE;
            lastHut = NONE;
            blocked = NONE;
            offerTo = NONE;
            award = NONE;
            roads = new int[EDGES];
            buildings = new int[CORNERS];
            hands = new int[(MOST_PLAYERS + 1) * GOODS];
            cards = new int[MOST_PLAYERS * CARD_KINDS];
            fresh = new int[CARD_KINDS];
            toGive = new int[MOST_PLAYERS];
            Arrays.fill(roads, NONE);
            Arrays.fill(buildings, NONE);
            for (int good = 0; good < GOODS; good++) {
                hands[BANK * GOODS + good] = OF_EACH_GOOD;
            }
        }

        void copyFrom(State other) {
            phase = other.phase;
            turn = other.turn;
            settled = other.settled;
            lastHut = other.lastHut;
            blocked = other.blocked;
            drawn = other.drawn;
            freeRoads = other.freeRoads;
            offerTo = other.offerTo;
            offerGives = other.offerGives;
            offerGets = other.offerGets;
            award = other.award;
            played = other.played;
            System.arraycopy(other.roads, 0, roads, 0, roads.length);
            System.arraycopy(other.buildings, 0, buildings, 0, buildings.length);
            System.arraycopy(other.hands, 0, hands, 0, hands.length);
            System.arraycopy(other.cards, 0, cards, 0, cards.length);
            System.arraycopy(other.fresh, 0, fresh, 0, fresh.length);
            System.arraycopy(other.toGive, 0, toGive, 0, toGive.length);
        }
    }

    private final int[] hexGood;
    private final int[] hexNumber;
    /** The kind of the port whose edge is at a corner. */
    private final int[] cornerPort;
    private int ports;
    private long deckKinds;
    private int playerCount;
    private int target;
    private final State now;
    private final State before;
    private boolean undoable;

    public HexIsland() {
        hexGood = new int[HEXES];
        hexNumber = new int[HEXES];
        cornerPort = new int[CORNERS];
        Arrays.fill(hexGood, BARREN);
        Arrays.fill(cornerPort, NONE);
        now = new State();
        before = new State();
    }

    public void hex(int h, int good, int number) throws IllegalStateException, IllegalArgumentException {
        requirePhase(LAYOUT);
        if (!isHex(h) || !isYield(good, number)) {
            throw new IllegalArgumentException();
        }
        hexGood[h] = good;
        hexNumber[h] = number;
    }

    public int port(int edge, int kind)
            throws IllegalStateException, IllegalArgumentException, UnsupportedOperationException {
        requirePhase(LAYOUT);
        if (ports >= MOST_PORTS) {
            throw new IllegalStateException();
        }
        if (!isSpot(ROAD, edge) || kind < 0 || kind >= PORT_KINDS) {
            throw new IllegalArgumentException();
        }
        int one = EDGE_CORNERS[2 * edge];
        int other = EDGE_CORNERS[2 * edge + 1];
        if (!isShore(one, other) || cornerPort[one] != NONE || cornerPort[other] != NONE) {
            throw new UnsupportedOperationException();
        }
        cornerPort[one] = kind;
        cornerPort[other] = kind;
        ports++;
        return ports;
    }

    public void deck(long kinds) throws IllegalStateException {
        requirePhase(LAYOUT);
        deckKinds = kinds;
    }

    public void players(int n, int target) throws IllegalStateException, IllegalArgumentException {
        requirePhase(LAYOUT);
        if (n < LEAST_PLAYERS || n > MOST_PLAYERS || target < LEAST_TARGET || target > MOST_TARGET) {
            throw new IllegalArgumentException();
        }
        playerCount = n;
        this.target = target;
        now.blocked = firstBarrenHex();
        now.turn = 0;
        now.phase = FIRST_HUT;
    }

    public int place(int kind, int spot)
            throws IllegalArgumentException, IllegalStateException, UnsupportedOperationException {
        if (!isSpot(kind, spot)) {
            throw new IllegalArgumentException();
        }
        if (!isTimeFor(kind)) {
            throw new IllegalStateException();
        }
        if (!fits(kind, spot)) {
            throw new UnsupportedOperationException();
        }
        remember();
        int player = now.turn;
        put(kind, spot);
        settleAward();
        moveOn(spot);
        settleWin();
        return pointsOf(player);
    }

    public int roll(int number) throws IllegalStateException, IllegalArgumentException {
        requirePhase(ROLL);
        if (number < LEAST_NUMBER || number > MOST_NUMBER) {
            throw new IllegalArgumentException();
        }
        remember();
        if (number == SEVEN) {
            now.phase = demandGoods() ? GIVING : BLOCKING;
            return 0;
        }
        now.phase = TURN;
        int got = 0;
        for (int good = 0; good < GOODS; good++) {
            got += bring(good, number);
        }
        return got;
    }

    public int give(int player, int good) throws IllegalStateException, IllegalArgumentException {
        requirePhase(GIVING);
        if (!isPlayer(player) || !isGood(good) || now.toGive[player] == 0 || inHand(player, good) == 0) {
            throw new IllegalArgumentException();
        }
        remember();
        move(player, BANK, good, 1);
        now.toGive[player]--;
        if (!mustAnyGive()) {
            now.phase = BLOCKING;
        }
        return now.toGive[player];
    }

    public int block(int h, int victim, int index) throws IllegalStateException, IllegalArgumentException {
        requirePhase(BLOCKING);
        if (!isHex(h) || h == now.blocked || index < 0) {
            throw new IllegalArgumentException();
        }
        if (victim == NONE ? hasVictim(h) : !isVictim(victim, h)) {
            throw new IllegalArgumentException();
        }
        remember();
        now.blocked = h;
        now.phase = TURN;
        int good = victim == NONE ? NONE : goodOfCard(victim, index);
        if (good != NONE) {
            move(victim, now.turn, good, 1);
        }
        return good;
    }

    public int bank(int gives, int gets) throws IllegalArgumentException, IllegalStateException {
        if (!isGood(gives) || !isGood(gets) || gives == gets) {
            throw new IllegalArgumentException();
        }
        requirePhase(TURN);
        int price = bankPrice(gives);
        if (inHand(now.turn, gives) < price || inHand(BANK, gets) < 1) {
            throw new IllegalStateException();
        }
        remember();
        move(now.turn, BANK, gives, price);
        move(BANK, now.turn, gets, 1);
        return price;
    }

    public void offer(int to, int gives, int gets) throws IllegalArgumentException, IllegalStateException {
        if (!isPlayer(to) || to == now.turn || !isBundle(gives) || !isBundle(gets) || (gives == 0 && gets == 0)) {
            throw new IllegalArgumentException();
        }
        requirePhase(TURN);
        if (!hasBundle(now.turn, gives)) {
            throw new IllegalStateException();
        }
        remember();
        now.offerTo = to;
        now.offerGives = gives;
        now.offerGets = gets;
    }

    public int accept() throws IllegalStateException {
        requirePhase(TURN);
        int to = now.offerTo;
        if (to == NONE || !hasBundle(now.turn, now.offerGives) || !hasBundle(to, now.offerGets)) {
            throw new IllegalStateException();
        }
        remember();
        now.offerTo = NONE;
        return moveBundle(now.turn, to, now.offerGives) + moveBundle(to, now.turn, now.offerGets);
    }

    public int buy() throws IllegalStateException {
        requirePhase(TURN);
        if (now.drawn >= DECK_SIZE || !canPay(CARD)) {
            throw new IllegalStateException();
        }
        remember();
        pay(CARD);
        int kind = deckKind(now.drawn);
        now.drawn++;
        now.cards[now.turn * CARD_KINDS + kind]++;
        now.fresh[kind]++;
        settleWin();
        return DECK_SIZE - now.drawn;
    }

    public int play(int kind, int a, int b) throws IllegalArgumentException, IllegalStateException {
        if (!isPlay(kind, a, b)) {
            throw new IllegalArgumentException();
        }
        requirePhase(TURN);
        if (!mayPlay(kind, a, b)) {
            throw new IllegalStateException();
        }
        remember();
        now.cards[now.turn * CARD_KINDS + kind]--;
        now.played = true;
        return takeEffect(kind, a, b);
    }

    public int pass() throws IllegalStateException {
        if (now.phase != TURN && now.phase != FREE_ROADS) {
            throw new IllegalStateException();
        }
        remember();
        if (now.phase == FREE_ROADS) {
            now.phase = TURN;
        } else {
            endTurn();
            settleWin();
        }
        return now.turn;
    }

    public int undo() throws IllegalStateException {
        if (!undoable) {
            throw new IllegalStateException();
        }
        now.copyFrom(before);
        undoable = false;
        return now.phase;
    }

    public int phase() {
        return now.phase;
    }

    public int turn() {
        return now.turn;
    }

    public int winner() {
        return now.phase == OVER ? now.turn : NONE;
    }

    public int goods(int player, int good) throws IndexOutOfBoundsException {
        if ((player != NONE && !isPlayer(player)) || !isGood(good)) {
            throw new IndexOutOfBoundsException();
        }
        return inHand(player == NONE ? BANK : player, good);
    }

    public int cards(int player, int kind) throws IndexOutOfBoundsException {
        requirePlayer(player);
        if (kind < 0 || kind >= CARD_KINDS) {
            throw new IndexOutOfBoundsException();
        }
        return now.cards[player * CARD_KINDS + kind];
    }

    public int points(int player) throws IndexOutOfBoundsException {
        requirePlayer(player);
        return pointsOf(player);
    }

    public int chain(int player) throws IndexOutOfBoundsException {
        requirePlayer(player);
        return chainOf(player);
    }

    public int award() {
        return now.award;
    }

    public int owner(int kind, int spot) throws IndexOutOfBoundsException {
        if ((kind != ROAD && kind != HUT) || !isSpot(kind, spot)) {
            throw new IndexOutOfBoundsException();
        }
        return kind == ROAD ? now.roads[spot] : now.buildings[spot];
    }

    public int legal(int i) {
        if (i < 0) {
            return NONE;
        }
        int toSkip = i;
        for (int kind = 0; kind < PIECE_KINDS; kind++) {
            int spots = isTimeFor(kind) ? spotsFor(kind) : 0;
            for (int spot = 0; spot < spots; spot++) {
                if (!fits(kind, spot)) {
                    continue;
                }
                if (toSkip == 0) {
                    return 100 * kind + spot;
                }
                toSkip--;
            }
        }
        return NONE;
    }

    public int forecast(int player, int good, int rolls) throws IndexOutOfBoundsException, IllegalArgumentException {
        requirePlayer(player);
        if (!isGood(good)) {
            throw new IndexOutOfBoundsException();
        }
        if (rolls < 1 || rolls > MOST_FORECAST_ROLLS) {
            throw new IllegalArgumentException();
        }
        int inAllRolls = 0;
        for (int number = LEAST_NUMBER; number <= MOST_NUMBER; number++) {
            inAllRolls += waysToRoll(number) * claimOf(player, good, number);
        }
        int mean = rolls * inAllRolls;
        for (int roll = 1; roll < rolls; roll++) {
            mean *= DICE_ROLLS;
        }
        return mean;
    }

    // What the arguments of the calls may be.

    private void requirePhase(int phase) {
        if (now.phase != phase) {
            throw new IllegalStateException();
        }
    }

    private void requirePlayer(int player) {
        if (!isPlayer(player)) {
            throw new IndexOutOfBoundsException();
        }
    }

    private boolean isPlayer(int player) {
        return player >= 0 && player < playerCount;
    }

    private static boolean isHex(int h) {
        return h >= 0 && h < HEXES;
    }

    private static boolean isGood(int good) {
        return good >= 0 && good < GOODS;
    }

    private static boolean isYield(int good, int number) {
        if (good == BARREN) {
            return number == 0;
        }
        return isGood(good) && number >= LEAST_NUMBER && number <= MOST_NUMBER && number != SEVEN;
    }

    private static boolean isSpot(int kind, int spot) {
        return spot >= 0 && spot < spotsFor(kind);
    }

    private static int spotsFor(int kind) {
        switch (kind) {
            case ROAD:
                return EDGES;
            case HUT:
            case TOWN:
                return CORNERS;
            default:
                return 0;
        }
    }

    private static boolean isBundle(int bundle) {
        return bundle >> BITS_OF_A_BUNDLE == 0;
    }

    private static boolean isPlay(int kind, int a, int b) {
        switch (kind) {
            case BLOCKER_CARD:
            case ROADS_CARD:
                return true;
            case GOODS_CARD:
                return isGood(a) && isGood(b);
            case MONOPOLY_CARD:
                return isGood(a);
            default:
                return false;
        }
    }

    // The island.

    private static boolean isShore(int one, int other) {
        int common = 0;
        for (int h = 0; h < HEXES; h++) {
            if (isBeside(one, h) && isBeside(other, h)) {
                common++;
            }
        }
        return common == 1;
    }

    private static boolean isBeside(int corner, int h) {
        for (int k = 0; k < CORNERS_OF_HEX; k++) {
            if (HEX_CORNERS[h * CORNERS_OF_HEX + k] == corner) {
                return true;
            }
        }
        return false;
    }

    private static boolean isAt(int edge, int corner) {
        return EDGE_CORNERS[2 * edge] == corner || EDGE_CORNERS[2 * edge + 1] == corner;
    }

    private static int otherEnd(int edge, int corner) {
        int one = EDGE_CORNERS[2 * edge];
        return one == corner ? EDGE_CORNERS[2 * edge + 1] : one;
    }

    private int firstBarrenHex() {
        for (int h = 0; h < HEXES; h++) {
            if (hexGood[h] == BARREN) {
                return h;
            }
        }
        return NONE;
    }

    // Goods.

    private int inHand(int holder, int good) {
        return now.hands[holder * GOODS + good];
    }

    private int handSize(int player) {
        int size = 0;
        for (int good = 0; good < GOODS; good++) {
            size += inHand(player, good);
        }
        return size;
    }

    private void move(int from, int to, int good, int count) {
        now.hands[from * GOODS + good] -= count;
        now.hands[to * GOODS + good] += count;
    }

    private boolean canPay(int thing) {
        for (int good = 0; good < GOODS; good++) {
            if (inHand(now.turn, good) < PRICES[thing * GOODS + good]) {
                return false;
            }
        }
        return true;
    }

    private void pay(int thing) {
        for (int good = 0; good < GOODS; good++) {
            move(now.turn, BANK, good, PRICES[thing * GOODS + good]);
        }
    }

    private static int inBundle(int bundle, int good) {
        return (bundle >> (good * BITS_OF_A_GOOD)) & MOST_OF_A_GOOD;
    }

    private boolean hasBundle(int player, int bundle) {
        for (int good = 0; good < GOODS; good++) {
            if (inHand(player, good) < inBundle(bundle, good)) {
                return false;
            }
        }
        return true;
    }

    private int moveBundle(int from, int to, int bundle) {
        int moved = 0;
        for (int good = 0; good < GOODS; good++) {
            int count = inBundle(bundle, good);
            move(from, to, good, count);
            moved += count;
        }
        return moved;
    }

    private int bankPrice(int gives) {
        int price = 4;
        for (int corner = 0; corner < CORNERS; corner++) {
            if (worth(now.turn, corner) == 0) {
                continue;
            }
            if (cornerPort[corner] == gives) {
                return 2;
            }
            if (cornerPort[corner] == ANY_GOOD_PORT) {
                price = 3;
            }
        }
        return price;
    }

    // Pieces.

    private boolean isTimeFor(int kind) {
        switch (now.phase) {
            case FIRST_HUT:
                return kind == HUT;
            case FIRST_ROAD:
                return kind == ROAD;
            case TURN:
                return hasPieceLeft(kind) && canPay(kind);
            case FREE_ROADS:
                return kind == ROAD && hasPieceLeft(ROAD);
            default:
                return false;
        }
    }

    private boolean hasPieceLeft(int kind) {
        switch (kind) {
            case ROAD:
                return countOf(now.roads, now.turn) < MOST_ROADS;
            case HUT:
                return countOf(now.buildings, now.turn) < MOST_HUTS;
            default:
                return countOf(now.buildings, now.turn + TOWN_MARK) < MOST_TOWNS;
        }
    }

    private static int countOf(int[] spots, int mark) {
        int count = 0;
        for (int spot = 0; spot < spots.length; spot++) {
            if (spots[spot] == mark) {
                count++;
            }
        }
        return count;
    }

    private boolean fits(int kind, int spot) {
        switch (kind) {
            case ROAD:
                return roadFits(spot);
            case HUT:
                return hutFits(spot);
            default:
                return now.buildings[spot] == now.turn;
        }
    }

    private boolean roadFits(int edge) {
        if (now.roads[edge] != NONE) {
            return false;
        }
        if (now.phase == FIRST_ROAD) {
            return isAt(edge, now.lastHut);
        }
        return leadsOn(EDGE_CORNERS[2 * edge]) || leadsOn(EDGE_CORNERS[2 * edge + 1]);
    }

    /** Whether a new road of the player on turn may begin at a corner. */
    private boolean leadsOn(int corner) {
        if (now.buildings[corner] == NONE) {
            return hasRoadAt(corner);
        }
        return worth(now.turn, corner) > 0;
    }

    private boolean hasRoadAt(int corner) {
        for (int k = 0; k < EDGES_OF_CORNER; k++) {
            int edge = CORNER_EDGES[corner * EDGES_OF_CORNER + k];
            if (edge != NONE && now.roads[edge] == now.turn) {
                return true;
            }
        }
        return false;
    }

    private boolean hutFits(int corner) {
        if (now.buildings[corner] != NONE || hasNeighbour(corner)) {
            return false;
        }
        return now.phase == FIRST_HUT || hasRoadAt(corner);
    }

    private boolean hasNeighbour(int corner) {
        for (int k = 0; k < EDGES_OF_CORNER; k++) {
            int edge = CORNER_EDGES[corner * EDGES_OF_CORNER + k];
            if (edge != NONE && now.buildings[otherEnd(edge, corner)] != NONE) {
                return true;
            }
        }
        return false;
    }

    private void put(int kind, int spot) {
        if (now.phase == TURN) {
            pay(kind);
        }
        if (kind == ROAD) {
            now.roads[spot] = now.turn;
        } else {
            now.buildings[spot] = kind == TOWN ? now.turn + TOWN_MARK : now.turn;
        }
    }

    private void moveOn(int spot) {
        switch (now.phase) {
            case FIRST_HUT:
                now.lastHut = spot;
                if (now.settled >= playerCount) {
                    bringFirstGoods(spot);
                }
                now.phase = FIRST_ROAD;
                break;
            case FIRST_ROAD:
                nextToSettle();
                break;
            case FREE_ROADS:
                now.freeRoads--;
                endFreeRoadsIfStuck();
                break;
            default:
                break;
        }
    }

    private void bringFirstGoods(int corner) {
        for (int h = 0; h < HEXES; h++) {
            if (hexGood[h] != BARREN && isBeside(corner, h)) {
                move(BANK, now.turn, hexGood[h], 1);
            }
        }
    }

    private void nextToSettle() {
        now.settled++;
        if (now.settled == 2 * playerCount) {
            now.turn = 0;
            now.phase = ROLL;
            return;
        }
        now.turn = now.settled < playerCount ? now.settled : 2 * playerCount - 1 - now.settled;
        now.phase = FIRST_HUT;
    }

    private void endFreeRoadsIfStuck() {
        if (now.freeRoads == 0 || !hasPieceLeft(ROAD) || !anyRoadFits()) {
            now.phase = TURN;
        }
    }

    private boolean anyRoadFits() {
        for (int edge = 0; edge < EDGES; edge++) {
            if (roadFits(edge)) {
                return true;
            }
        }
        return false;
    }

    // Rolls.

    /** 1 for a hut of the player on a corner, 2 for a town: in points and in goods. */
    private int worth(int player, int corner) {
        int building = now.buildings[corner];
        if (building == player) {
            return 1;
        }
        return building == player + TOWN_MARK ? 2 : 0;
    }

    private int worthBeside(int player, int h) {
        int sum = 0;
        for (int k = 0; k < CORNERS_OF_HEX; k++) {
            sum += worth(player, HEX_CORNERS[h * CORNERS_OF_HEX + k]);
        }
        return sum;
    }

    private int claimOf(int player, int good, int number) {
        int claim = 0;
        for (int h = 0; h < HEXES; h++) {
            if (hexGood[h] == good && hexNumber[h] == number && h != now.blocked) {
                claim += worthBeside(player, h);
            }
        }
        return claim;
    }

    private int bring(int good, int number) {
        int claimed = 0;
        int claimers = 0;
        for (int player = 0; player < playerCount; player++) {
            int claim = claimOf(player, good, number);
            claimed += claim;
            claimers += claim > 0 ? 1 : 0;
        }
        int stock = inHand(BANK, good);
        if (claimed > stock && claimers > 1) {
            return 0;
        }
        for (int player = 0; player < playerCount; player++) {
            move(BANK, player, good, Math.min(claimOf(player, good, number), stock));
        }
        return Math.min(claimed, stock);
    }

    private boolean demandGoods() {
        for (int player = 0; player < playerCount; player++) {
            int size = handSize(player);
            now.toGive[player] = size > MOST_GOODS_KEPT ? size / 2 : 0;
        }
        return mustAnyGive();
    }

    private boolean mustAnyGive() {
        for (int player = 0; player < playerCount; player++) {
            if (now.toGive[player] > 0) {
                return true;
            }
        }
        return false;
    }

    private static int waysToRoll(int number) {
        return 6 - Math.abs(SEVEN - number);
    }

    // Blocking.

    private boolean isVictim(int player, int h) {
        return isPlayer(player) && player != now.turn && handSize(player) > 0 && worthBeside(player, h) > 0;
    }

    private boolean hasVictim(int h) {
        for (int player = 0; player < playerCount; player++) {
            if (isVictim(player, h)) {
                return true;
            }
        }
        return false;
    }

    private int goodOfCard(int player, int index) {
        int size = handSize(player);
        if (size == 0) {
            return NONE;
        }
        int left = index % size;
        for (int good = 0; good < GOODS; good++) {
            if (left < inHand(player, good)) {
                return good;
            }
            left -= inHand(player, good);
        }
        return NONE;
    }

    // Cards.

    private int deckKind(int index) {
        return (int) Math.min((deckKinds >>> (3 * index)) & 7L, (long) POINT_CARD);
    }

    private boolean mayPlay(int kind, int a, int b) {
        if (now.played || now.cards[now.turn * CARD_KINDS + kind] <= now.fresh[kind]) {
            return false;
        }
        switch (kind) {
            case ROADS_CARD:
                return hasPieceLeft(ROAD);
            case GOODS_CARD:
                return inHand(BANK, a) >= (a == b ? 2 : 1) && inHand(BANK, b) >= 1;
            default:
                return true;
        }
    }

    private int takeEffect(int kind, int a, int b) {
        switch (kind) {
            case BLOCKER_CARD:
                now.phase = BLOCKING;
                return 0;
            case ROADS_CARD:
                now.phase = FREE_ROADS;
                now.freeRoads = ROADS_OF_A_CARD;
                endFreeRoadsIfStuck();
                return 0;
            case GOODS_CARD:
                move(BANK, now.turn, a, 1);
                move(BANK, now.turn, b, 1);
                return 2;
            default:
                return collectAll(a);
        }
    }

    private int collectAll(int good) {
        int got = 0;
        for (int player = 0; player < playerCount; player++) {
            if (player != now.turn) {
                int count = inHand(player, good);
                move(player, now.turn, good, count);
                got += count;
            }
        }
        return got;
    }

    // Points, chains and the end.

    private int pointsOf(int player) {
        int sum = now.cards[player * CARD_KINDS + POINT_CARD];
        for (int corner = 0; corner < CORNERS; corner++) {
            sum += worth(player, corner);
        }
        return now.award == player ? sum + AWARD_POINTS : sum;
    }

    private int chainOf(int player) {
        int longest = 0;
        for (int corner = 0; corner < CORNERS; corner++) {
            longest = Math.max(longest, farthest(now, player, corner, 0));
        }
        return longest;
    }

    /**
     * The most roads that a walk can have which has come to a corner along so many. A road that was
     * gone along is taken off the island until the walk comes back, so that none counts twice.
     */
    private static int farthest(State state, int player, int corner, int gone) {
        if (gone >= MOST_ROADS || (gone > 0 && isForeign(state.buildings[corner], player))) {
            return gone;
        }
        int longest = gone;
        for (int k = 0; k < EDGES_OF_CORNER; k++) {
            int edge = CORNER_EDGES[corner * EDGES_OF_CORNER + k];
            if (edge != NONE && state.roads[edge] == player) {
                state.roads[edge] = NONE;
                longest = Math.max(longest, farthest(state, player, otherEnd(edge, corner), gone + 1));
                state.roads[edge] = player;
            }
        }
        return longest;
    }

    private static boolean isForeign(int building, int player) {
        return building != NONE && building != player && building != player + TOWN_MARK;
    }

    private void settleAward() {
        int longest = 0;
        int leader = NONE;
        boolean holderLeads = false;
        for (int player = 0; player < playerCount; player++) {
            int length = chainOf(player);
            if (length > longest) {
                longest = length;
                leader = player;
                holderLeads = player == now.award;
            } else if (length == longest) {
                leader = NONE;
                holderLeads = holderLeads || player == now.award;
            }
        }
        if (longest < AWARD_CHAIN) {
            now.award = NONE;
        } else if (!holderLeads) {
            now.award = leader;
        }
    }

    private void endTurn() {
        now.turn = now.turn + 1 < playerCount ? now.turn + 1 : 0;
        now.phase = ROLL;
        now.played = false;
        now.offerTo = NONE;
        Arrays.fill(now.fresh, 0);
    }

    private void settleWin() {
        if (now.phase >= ROLL && now.phase <= FREE_ROADS && pointsOf(now.turn) >= target) {
            now.phase = OVER;
        }
    }

    private void remember() {
        before.copyFrom(now);
        undoable = true;
    }
}
