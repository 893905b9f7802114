import java.util.ArrayList;
import java.util.HashMap;
import java.util.HashSet;
import java.util.List;
import java.util.Map;
import java.util.Set;
import java.util.TreeMap;

/**
 * A second referee, written from the document with the Java library and without regard to cost; the
 * tests play it against the class. Its answers are texts: a number, "ok", or throws.SomeException.
 */
final class Model {
    static final String ISE = "throws.IllegalStateException";
    static final String IAE = "throws.IllegalArgumentException";
    static final String UOE = "throws.UnsupportedOperationException";
    static final String IOOBE = "throws.IndexOutOfBoundsException";
    static final String OK = "ok";

    /** Lines of corners, by the document's words. */
    private static final int[][] LINES = {
        {2, 4, 6}, {1, 3, 5, 7}, {1, 3, 5, 7}, {0, 2, 4, 6, 8}, {0, 2, 4, 6, 8}, {-1, 1, 3, 5, 7, 9},
        {-1, 1, 3, 5, 7, 9}, {0, 2, 4, 6, 8}, {0, 2, 4, 6, 8}, {1, 3, 5, 7}, {1, 3, 5, 7}, {2, 4, 6}
    };
    private static final int[] ROWS = {3, 4, 5, 4, 3};

    /** The line and the place of each corner. */
    static final List<int[]> CORNERS = new ArrayList<>();
    static final List<Set<Integer>> HEXES = new ArrayList<>();
    static final List<int[]> EDGES = new ArrayList<>();

    static {
        Map<String, Integer> numbers = new HashMap<>();
        for (int line = 0; line < LINES.length; line++) {
            for (int place : LINES[line]) {
                numbers.put(line + "/" + place, CORNERS.size());
                CORNERS.add(new int[] {line, place});
            }
        }
        for (int r = 0; r < ROWS.length; r++) {
            for (int k = 0; k < ROWS[r]; k++) {
                int x = 2 * k + Math.abs(r - 2);
                Set<Integer> hex = new HashSet<>();
                hex.add(numbers.get(2 * r + "/" + x));
                for (int line = 2 * r + 1; line <= 2 * r + 2; line++) {
                    hex.add(numbers.get(line + "/" + (x - 1)));
                    hex.add(numbers.get(line + "/" + (x + 1)));
                }
                hex.add(numbers.get(2 * r + 3 + "/" + x));
                HEXES.add(hex);
            }
        }
        for (int a = 0; a < CORNERS.size(); a++) {
            for (int b = a + 1; b < CORNERS.size(); b++) {
                if (areNeighbours(CORNERS.get(a), CORNERS.get(b))) {
                    EDGES.add(new int[] {a, b});
                }
            }
        }
    }

    private static boolean areNeighbours(int[] upper, int[] lower) {
        if (lower[0] != upper[0] + 1) {
            return false;
        }
        int apart = Math.abs(lower[1] - upper[1]);
        return upper[0] % 2 == 0 ? apart == 1 : apart == 0;
    }

    /** Named numbers: what is not there is 0. Copies of these three are all that undo needs. */
    private Map<String, Integer> state = new HashMap<>();
    private int[] roads = new int[72];
    private int[] buildings = new int[54];
    private Map<String, Integer> savedState = null;
    private int[] savedRoads = null;
    private int[] savedBuildings = null;
    private long deck = 0;

    Model() {
        for (int h = 0; h < 19; h++) {
            set("good" + h, 5);
        }
        for (int good = 0; good < 5; good++) {
            set("bank" + good, 19);
        }
        set("turn", -1);
        set("blocked", -1);
        set("award", -1);
        set("winner", -1);
        set("offer", -1);
    }

    private int get(String name) {
        return state.getOrDefault(name, 0);
    }

    private void set(String name, int value) {
        state.put(name, value);
    }

    private void add(String name, int value) {
        set(name, get(name) + value);
    }

    int phase() {
        return get("phase");
    }

    int turn() {
        return get("turn");
    }

    int count() {
        return get("n");
    }

    int hand(int player, int good) {
        return player < 0 ? get("bank" + good) : get("hand" + player + "," + good);
    }

    private void pass(int from, int to, int good, int many) {
        add(from < 0 ? "bank" + good : "hand" + from + "," + good, -many);
        add(to < 0 ? "bank" + good : "hand" + to + "," + good, many);
    }

    int handSize(int player) {
        int size = 0;
        for (int good = 0; good < 5; good++) {
            size += hand(player, good);
        }
        return size;
    }

    private boolean isPlayer(int p) {
        return p >= 0 && p < count();
    }

    private static boolean isGood(int g) {
        return 0 <= g && g <= 4;
    }

    /** Who has built on a corner, -1 for nobody. */
    private int builder(int corner) {
        int b = buildings[corner];
        return b == 0 ? -1 : (b - 1) % 8;
    }

    private int size(int corner) {
        int b = buildings[corner];
        return b == 0 ? 0 : b > 8 ? 2 : 1;
    }

    private int roadOf(int edge) {
        return roads[edge] - 1;
    }

    String hex(int h, int good, int number) {
        if (phase() != 0) {
            return ISE;
        }
        boolean asSaid = isGood(good) ? number >= 2 && number <= 12 && number != 7 : good == 5 && number == 0;
        if (h < 0 || h > 18 || !asSaid) {
            return IAE;
        }
        set("good" + h, good);
        set("number" + h, number);
        return OK;
    }

    static boolean isShore(int edge) {
        int common = 0;
        for (Set<Integer> hex : HEXES) {
            if (hex.contains(EDGES.get(edge)[0]) && hex.contains(EDGES.get(edge)[1])) {
                common++;
            }
        }
        return common == 1;
    }

    String port(int edge, int kind) {
        if (phase() != 0 || get("ports") == 9) {
            return ISE;
        }
        if (edge < 0 || edge > 71 || kind < 0 || kind > 5) {
            return IAE;
        }
        int a = EDGES.get(edge)[0];
        int b = EDGES.get(edge)[1];
        if (!isShore(edge) || get("port" + a) != 0 || get("port" + b) != 0) {
            return UOE;
        }
        set("port" + a, kind + 1);
        set("port" + b, kind + 1);
        add("ports", 1);
        return "" + get("ports");
    }

    String deck(long kinds) {
        if (phase() != 0) {
            return ISE;
        }
        deck = kinds;
        return OK;
    }

    String players(int n, int target) {
        if (phase() != 0) {
            return ISE;
        }
        if (n < 2 || n > 4 || target < 3 || target > 12) {
            return IAE;
        }
        set("n", n);
        set("target", target);
        for (int h = 18; h >= 0; h--) {
            if (get("good" + h) == 5) {
                set("blocked", h);
            }
        }
        set("phase", 1);
        set("turn", 0);
        return OK;
    }

    static int[] price(int thing) {
        switch (thing) {
            case 0: return new int[] {1, 1, 0, 0, 0};
            case 1: return new int[] {1, 1, 1, 1, 0};
            case 2: return new int[] {0, 0, 0, 2, 3};
            default: return new int[] {0, 0, 1, 1, 1};
        }
    }

    private boolean affords(int thing) {
        for (int good = 0; good < 5; good++) {
            if (hand(turn(), good) < price(thing)[good]) {
                return false;
            }
        }
        return true;
    }

    private void pay(int thing) {
        for (int good = 0; good < 5; good++) {
            pass(turn(), -1, good, price(thing)[good]);
        }
    }

    private int pieces(int player, int kind) {
        int many = 0;
        if (kind == 0) {
            for (int e = 0; e < 72; e++) {
                many += roadOf(e) == player ? 1 : 0;
            }
            return many;
        }
        for (int c = 0; c < 54; c++) {
            many += builder(c) == player && size(c) == kind ? 1 : 0;
        }
        return many;
    }

    private boolean ownRoadAt(int corner) {
        for (int e = 0; e < 72; e++) {
            if (roadOf(e) == turn() && (EDGES.get(e)[0] == corner || EDGES.get(e)[1] == corner)) {
                return true;
            }
        }
        return false;
    }

    private boolean roadMayGo(int edge) {
        if (roadOf(edge) >= 0) {
            return false;
        }
        for (int corner : EDGES.get(edge)) {
            if (phase() == 2) {
                if (corner == get("lastHut")) {
                    return true;
                }
            } else if (builder(corner) == turn() || (builder(corner) < 0 && ownRoadAt(corner))) {
                return true;
            }
        }
        return false;
    }

    private boolean hutMayGo(int corner) {
        if (builder(corner) >= 0) {
            return false;
        }
        for (int[] edge : EDGES) {
            if ((edge[0] == corner && builder(edge[1]) >= 0) || (edge[1] == corner && builder(edge[0]) >= 0)) {
                return false;
            }
        }
        return phase() == 1 || ownRoadAt(corner);
    }

    /** What place would throw, OK for nothing. */
    private String placeThrows(int kind, int spot) {
        if (kind < 0 || kind > 2 || spot < 0 || spot >= (kind == 0 ? 72 : 54)) {
            return IAE;
        }
        boolean timely = phase() == 6 || (phase() == 1 && kind == 1) || ((phase() == 2 || phase() == 7) && kind == 0);
        int[] most = {15, 5, 4};
        if (!timely || pieces(turn(), kind) >= most[kind] || (phase() == 6 && !affords(kind))) {
            return ISE;
        }
        boolean may = kind == 0 ? roadMayGo(spot) : kind == 1 ? hutMayGo(spot) : builder(spot) == turn() && size(spot) == 1;
        return may ? OK : UOE;
    }

    List<Integer> allLegal() {
        List<Integer> all = new ArrayList<>();
        for (int kind = 0; kind < 3; kind++) {
            for (int spot = 0; spot < 72; spot++) {
                if (placeThrows(kind, spot).equals(OK)) {
                    all.add(100 * kind + spot);
                }
            }
        }
        return all;
    }

    private void save() {
        savedState = new HashMap<>(state);
        savedRoads = roads.clone();
        savedBuildings = buildings.clone();
    }

    String place(int kind, int spot) {
        String thrown = placeThrows(kind, spot);
        if (!thrown.equals(OK)) {
            return thrown;
        }
        save();
        int player = turn();
        if (phase() == 6) {
            pay(kind);
        }
        if (kind == 0) {
            roads[spot] = player + 1;
        } else {
            buildings[spot] = player + 1 + (kind == 2 ? 8 : 0);
        }
        if (phase() == 1) {
            set("lastHut", spot);
            if (pieces(player, 1) == 2) {
                for (int h = 0; h < 19; h++) {
                    if (HEXES.get(h).contains(spot) && isGood(get("good" + h))) {
                        pass(-1, player, get("good" + h), 1);
                    }
                }
            }
            set("phase", 2);
        } else if (phase() == 2) {
            afterFirstRoad(player);
        } else if (phase() == 7) {
            add("free", -1);
            endFreeRoads();
        }
        after();
        return "" + pointsOf(player);
    }

    private void afterFirstRoad(int player) {
        int set = 0;
        for (int p = 0; p < count(); p++) {
            set += pieces(p, 0);
        }
        set("phase", 1);
        if (set < count()) {
            set("turn", player + 1);
        } else if (set > count() && set < 2 * count()) {
            set("turn", player - 1);
        } else if (set == 2 * count()) {
            set("phase", 3);
            set("turn", 0);
        }
    }

    private void endFreeRoads() {
        boolean can = false;
        for (int e = 0; e < 72; e++) {
            can |= roadMayGo(e);
        }
        if (get("free") == 0 || !can || pieces(turn(), 0) == 15) {
            set("phase", 6);
        }
    }

    /** The award and the end, as they are after each call. */
    private void after() {
        int longest = 0;
        for (int p = 0; p < count(); p++) {
            longest = Math.max(longest, chainOf(p));
        }
        List<Integer> leaders = new ArrayList<>();
        for (int p = 0; p < count(); p++) {
            if (chainOf(p) == longest) {
                leaders.add(p);
            }
        }
        if (longest < 5) {
            set("award", -1);
        } else if (!leaders.contains(get("award"))) {
            set("award", leaders.size() == 1 ? leaders.get(0) : -1);
        }
        if (phase() >= 3 && phase() <= 7 && pointsOf(turn()) >= get("target")) {
            set("winner", turn());
            set("phase", 8);
        }
    }

    int pointsOf(int player) {
        int sum = get("card" + player + ",4") + (get("award") == player ? 2 : 0);
        for (int c = 0; c < 54; c++) {
            sum += builder(c) == player ? size(c) : 0;
        }
        return sum;
    }

    /** Walks are grown by one road at a time, all of one length together. */
    int chainOf(int player) {
        List<Integer> own = new ArrayList<>();
        for (int e = 0; e < 72; e++) {
            if (roadOf(e) == player) {
                own.add(e);
            }
        }
        Set<Integer> walks = new HashSet<>();
        for (int k = 0; k < own.size(); k++) {
            walks.add((1 << k) * 64 + EDGES.get(own.get(k))[0]);
            walks.add((1 << k) * 64 + EDGES.get(own.get(k))[1]);
        }
        int length = 0;
        while (!walks.isEmpty()) {
            length++;
            Set<Integer> longer = new HashSet<>();
            for (int walk : walks) {
                int corner = walk % 64;
                if (builder(corner) >= 0 && builder(corner) != player) {
                    continue;
                }
                for (int k = 0; k < own.size(); k++) {
                    int[] edge = EDGES.get(own.get(k));
                    if ((walk / 64 & 1 << k) == 0 && (edge[0] == corner || edge[1] == corner)) {
                        longer.add((walk / 64 | 1 << k) * 64 + edge[0] + edge[1] - corner);
                    }
                }
            }
            walks = longer;
        }
        return length;
    }

    private int claim(int player, int h) {
        int sum = 0;
        for (int corner : HEXES.get(h)) {
            sum += builder(corner) == player ? size(corner) : 0;
        }
        return h == get("blocked") ? 0 : sum;
    }

    String roll(int number) {
        if (phase() != 3) {
            return ISE;
        }
        if (number < 2 || number > 12) {
            return IAE;
        }
        save();
        int got = 0;
        if (number == 7) {
            set("phase", 5);
            for (int p = 0; p < count(); p++) {
                set("due" + p, handSize(p) > 7 ? handSize(p) / 2 : 0);
                if (handSize(p) > 7) {
                    set("phase", 4);
                }
            }
        } else {
            for (int good = 0; good < 5; good++) {
                got += handOut(good, number);
            }
            set("phase", 6);
        }
        after();
        return "" + got;
    }

    private int handOut(int good, int number) {
        Map<Integer, Integer> claims = new TreeMap<>();
        int all = 0;
        for (int p = 0; p < count(); p++) {
            for (int h = 0; h < 19; h++) {
                if (get("good" + h) == good && get("number" + h) == number && claim(p, h) > 0) {
                    claims.merge(p, claim(p, h), Integer::sum);
                    all += claim(p, h);
                }
            }
        }
        if (all > hand(-1, good)) {
            if (claims.size() != 1) {
                return 0;
            }
            all = hand(-1, good);
            claims.replaceAll((p, many) -> hand(-1, good));
        }
        claims.forEach((p, many) -> pass(-1, p, good, many));
        return all;
    }

    String give(int player, int good) {
        if (phase() != 4) {
            return ISE;
        }
        if (!isPlayer(player) || !isGood(good) || get("due" + player) == 0 || hand(player, good) == 0) {
            return IAE;
        }
        save();
        pass(player, -1, good, 1);
        add("due" + player, -1);
        int left = 0;
        for (int p = 0; p < count(); p++) {
            left += get("due" + p);
        }
        if (left == 0) {
            set("phase", 5);
        }
        return "" + get("due" + player);
    }

    List<Integer> victims(int h) {
        List<Integer> all = new ArrayList<>();
        for (int p = 0; p < count(); p++) {
            boolean beside = false;
            for (int corner : HEXES.get(h)) {
                beside |= builder(corner) == p;
            }
            if (p != turn() && beside && handSize(p) > 0) {
                all.add(p);
            }
        }
        return all;
    }

    String block(int h, int victim, int index) {
        if (phase() != 5) {
            return ISE;
        }
        if (h < 0 || h > 18 || h == get("blocked") || index < 0) {
            return IAE;
        }
        if (victim == -1 ? !victims(h).isEmpty() : !victims(h).contains(victim)) {
            return IAE;
        }
        save();
        set("blocked", h);
        set("phase", 6);
        if (victim == -1) {
            return "-1";
        }
        List<Integer> hand = new ArrayList<>();
        for (int good = 0; good < 5; good++) {
            for (int k = 0; k < hand(victim, good); k++) {
                hand.add(good);
            }
        }
        int good = hand.get(index % hand.size());
        pass(victim, turn(), good, 1);
        return "" + good;
    }

    String bank(int gives, int gets) {
        if (!isGood(gives) || !isGood(gets) || gives == gets) {
            return IAE;
        }
        int rate = 4;
        for (int c = 0; c < 54; c++) {
            if (turn() >= 0 && builder(c) == turn() && get("port" + c) > 0) {
                int kind = get("port" + c) - 1;
                rate = Math.min(rate, kind == 5 ? 3 : kind == gives ? 2 : 4);
            }
        }
        if (phase() != 6 || hand(turn(), gives) < rate || hand(-1, gets) == 0) {
            return ISE;
        }
        save();
        pass(turn(), -1, gives, rate);
        pass(-1, turn(), gets, 1);
        return "" + rate;
    }

    private static int[] bundle(int bits) {
        int[] many = new int[5];
        for (int good = 0; good < 5; good++) {
            many[good] = bits / (int) Math.pow(16, good) % 16;
        }
        return many;
    }

    private boolean has(int player, int bits) {
        for (int good = 0; good < 5; good++) {
            if (hand(player, good) < bundle(bits)[good]) {
                return false;
            }
        }
        return true;
    }

    String offer(int to, int gives, int gets) {
        int limit = 1 << 20;
        if (!isPlayer(to) || to == turn() || gives < 0 || gets < 0 || gives >= limit || gets >= limit || gives + gets == 0) {
            return IAE;
        }
        if (phase() != 6 || !has(turn(), gives)) {
            return ISE;
        }
        save();
        set("offer", to);
        set("gives", gives);
        set("gets", gets);
        return OK;
    }

    String accept() {
        int to = get("offer");
        if (to == -1 || phase() != 6 || !has(turn(), get("gives")) || !has(to, get("gets"))) {
            return ISE;
        }
        save();
        set("offer", -1);
        int many = 0;
        for (int good = 0; good < 5; good++) {
            int there = bundle(get("gives"))[good];
            int back = bundle(get("gets"))[good];
            pass(turn(), to, good, there - back);
            many += there + back;
        }
        return "" + many;
    }

    String buy() {
        if (phase() != 6 || get("bought") == 16 || !affords(3)) {
            return ISE;
        }
        save();
        pay(3);
        int kind = (int) (deck >> 3 * get("bought") & 7);
        kind = kind > 4 ? 4 : kind;
        add("bought", 1);
        add("card" + turn() + "," + kind, 1);
        add("new" + kind, 1);
        after();
        return "" + (16 - get("bought"));
    }

    String play(int kind, int a, int b) {
        if (kind < 0 || kind > 3 || (kind == 2 && !(isGood(a) && isGood(b))) || (kind == 3 && !isGood(a))) {
            return IAE;
        }
        if (phase() != 6 || get("played") == 1 || get("card" + turn() + "," + kind) - get("new" + kind) < 1) {
            return ISE;
        }
        if (kind == 1 && pieces(turn(), 0) == 15) {
            return ISE;
        }
        if (kind == 2 && (hand(-1, a) < 1 || hand(-1, b) < 1 || (a == b && hand(-1, a) < 2))) {
            return ISE;
        }
        save();
        set("played", 1);
        add("card" + turn() + "," + kind, -1);
        int before = handSize(turn());
        if (kind == 0) {
            set("phase", 5);
        } else if (kind == 1) {
            set("phase", 7);
            set("free", 2);
            endFreeRoads();
        } else if (kind == 2) {
            pass(-1, turn(), a, 1);
            pass(-1, turn(), b, 1);
        } else {
            for (int p = 0; p < count(); p++) {
                pass(p, turn(), a, p == turn() ? 0 : hand(p, a));
            }
        }
        return "" + (handSize(turn()) - before);
    }

    String pass() {
        if (phase() != 6 && phase() != 7) {
            return ISE;
        }
        save();
        if (phase() == 7) {
            set("phase", 6);
        } else {
            set("turn", (turn() + 1) % count());
            set("phase", 3);
            set("played", 0);
            set("offer", -1);
            for (int kind = 0; kind < 5; kind++) {
                set("new" + kind, 0);
            }
        }
        after();
        return "" + turn();
    }

    String undo() {
        if (savedState == null) {
            return ISE;
        }
        state = savedState;
        roads = savedRoads;
        buildings = savedBuildings;
        savedState = null;
        return "" + phase();
    }

    String winner() {
        return "" + get("winner");
    }

    String goods(int player, int good) {
        return (player == -1 || isPlayer(player)) && isGood(good) ? "" + hand(player, good) : IOOBE;
    }

    String cards(int player, int kind) {
        return isPlayer(player) && kind >= 0 && kind <= 4 ? "" + get("card" + player + "," + kind) : IOOBE;
    }

    String points(int player) {
        return isPlayer(player) ? "" + pointsOf(player) : IOOBE;
    }

    String chain(int player) {
        return isPlayer(player) ? "" + chainOf(player) : IOOBE;
    }

    String award() {
        return "" + get("award");
    }

    String owner(int kind, int spot) {
        if (kind == 0 && spot >= 0 && spot < 72) {
            return "" + roadOf(spot);
        }
        if (kind == 1 && spot >= 0 && spot < 54) {
            return "" + (builder(spot) + (size(spot) == 2 ? 8 : 0));
        }
        return IOOBE;
    }

    String legal(int i) {
        List<Integer> all = allLegal();
        return i >= 0 && i < all.size() ? "" + all.get(i) : "-1";
    }

    /** Goes through all runs of rolls of two dice, one after the other. */
    String forecast(int player, int good, int rolls) {
        if (!isPlayer(player) || !isGood(good)) {
            return IOOBE;
        }
        if (rolls < 1 || rolls > 3) {
            return IAE;
        }
        int[] got = new int[13];
        for (int h = 0; h < 19; h++) {
            if (get("good" + h) == good) {
                got[get("number" + h)] += claim(player, h);
            }
        }
        return "" + sumOfAllRuns(got, rolls, 0);
    }

    private static long sumOfAllRuns(int[] got, int rolls, int soFar) {
        if (rolls == 0) {
            return soFar;
        }
        long sum = 0;
        for (int one = 1; one <= 6; one++) {
            for (int two = 1; two <= 6; two++) {
                sum += sumOfAllRuns(got, rolls - 1, soFar + got[one + two]);
            }
        }
        return sum;
    }
}
