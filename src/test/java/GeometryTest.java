/** Hexes, corners and edges lie as the document's terms say; they are looked at through the calls. */
public final class GeometryTest {
    public static void main(String[] args) {
        Checks.due("edges of the model", Model.EDGES.size(), 72);
        Checks.due("hexes of the model", Model.HEXES.size(), 19);
        shoreEdgesTakePorts();
        firstRoadsLieAtTheirHut();
        neighboursKeepHutsAway();
        hutsLieBesideTheirHexes();
        Checks.end();
    }

    private static void shoreEdgesTakePorts() {
        Checks.sentence("a SHORE edge is one whose two corners are beside just one common hex");
        int shores = 0;
        for (int e = 0; e < 72; e++) {
            int edge = e;
            HexIsland x = new HexIsland();
            if (Model.isShore(edge)) {
                shores++;
                Checks.due("port(" + edge + ", 0)", x.port(edge, 0), 1);
            } else {
                Checks.misplaced("port(" + edge + ", 0)", () -> x.port(edge, 0));
            }
        }
        Checks.due("shore edges", shores, 30);
    }

    private static void firstRoadsLieAtTheirHut() {
        Checks.sentence("Edges 0 .. 71 are numbered by the less of their corners, then by the other one; an edge is AT"
            + " its corners");
        for (int corner = 0; corner < 54; corner++) {
            HexIsland x = new HexIsland();
            x.players(2, 3);
            x.place(Scenes.HUT, corner);
            int i = 0;
            for (int e = 0; e < 72; e++) {
                if (Model.EDGES.get(e)[0] == corner || Model.EDGES.get(e)[1] == corner) {
                    Checks.due("hut on " + corner + ": legal(" + i + ")", x.legal(i), e);
                    i++;
                }
            }
            Checks.due("hut on " + corner + ": legal(" + i + ")", x.legal(i), -1);
        }
    }

    private static void neighboursKeepHutsAway() {
        Checks.sentence("An EDGE is between two corners that are NEIGHBOURS");
        for (int corner = 0; corner < 54; corner++) {
            HexIsland x = new HexIsland();
            x.players(2, 3);
            x.place(Scenes.HUT, corner);
            x.place(Scenes.ROAD, x.legal(0));
            int i = 0;
            for (int other = 0; other < 54; other++) {
                if (other != corner && !areNeighbours(corner, other)) {
                    Checks.due("hut on " + corner + ": legal(" + i + ")", x.legal(i), 100 + other);
                    i++;
                }
            }
            Checks.due("hut on " + corner + ": legal(" + i + ")", x.legal(i), -1);
        }
    }

    private static boolean areNeighbours(int a, int b) {
        for (int[] edge : Model.EDGES) {
            if ((edge[0] == a && edge[1] == b) || (edge[0] == b && edge[1] == a)) {
                return true;
            }
        }
        return false;
    }

    private static void hutsLieBesideTheirHexes() {
        Checks.sentence("A corner is BESIDE a hex of whose corners it is one");
        for (int h = 0; h < 19; h++) {
            for (int corner = 0; corner < 54; corner++) {
                HexIsland x = new HexIsland();
                x.hex(h, 2, 2);
                x.players(2, 3);
                x.place(Scenes.HUT, corner);
                int due = Model.HEXES.get(h).contains(corner) ? 1 : 0;
                Checks.due("hex " + h + ", hut on " + corner + ": forecast(0, 2, 1)", x.forecast(0, 2, 1), due);
            }
        }
    }
}
