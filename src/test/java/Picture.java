import java.util.Arrays;

/** The island drawn as a text, from the document's lines and places: the picture in README.md. */
final class Picture {
    private static final int ROWS = 23;
    private static final int COLUMNS = 48;
    private static final int COLUMNS_OF_A_PLACE = 4;

    private final char[][] canvas = new char[ROWS][COLUMNS];

    private Picture() {
        for (char[] row : canvas) {
            Arrays.fill(row, ' ');
        }
    }

    static String drawn() {
        Picture picture = new Picture();
        picture.drawCorners();
        picture.drawEdges();
        picture.drawHexes();
        StringBuilder text = new StringBuilder();
        for (char[] row : picture.canvas) {
            text.append(new String(row).stripTrailing()).append('\n');
        }
        return text.toString();
    }

    private void drawCorners() {
        for (int corner = 0; corner < Model.CORNERS.size(); corner++) {
            int[] at = Model.CORNERS.get(corner);
            write(2 * at[0], column(at[1]), Integer.toString(corner));
        }
    }

    private void drawEdges() {
        for (int edge = 0; edge < Model.EDGES.size(); edge++) {
            int[] upper = Model.CORNERS.get(Model.EDGES.get(edge)[0]);
            int[] lower = Model.CORNERS.get(Model.EDGES.get(edge)[1]);
            String way = upper[1] == lower[1] ? "|" : upper[1] > lower[1] ? "/" : "\\";
            write(upper[0] + lower[0], (column(upper[1]) + column(lower[1])) / 2, way + edge);
        }
    }

    private void drawHexes() {
        for (int h = 0; h < Model.HEXES.size(); h++) {
            int top = Model.HEXES.get(h).stream().min(Integer::compare).get();
            int[] at = Model.CORNERS.get(top);
            String text = "<" + h + ">";
            write(2 * at[0] + 3, column(at[1]) + 3 - text.length(), text);
        }
    }

    private static int column(int place) {
        return COLUMNS_OF_A_PLACE * (place + 1) + 1;
    }

    private void write(int row, int column, String text) {
        for (int k = 0; k < text.length(); k++) {
            canvas[row][column + k] = text.charAt(k);
        }
    }
}
