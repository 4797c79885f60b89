import java.util.Arrays;

/** A field of blank cells, in which cores, deltas and cells are put: so each of its corners is told by hand. */
final class Field {
    private final char[][] signs = new char[8][8];

    Field() {
        for (char[] row : signs) {
            Arrays.fill(row, '.');
        }
    }

    static int corner(int x, int y) {
        return 7 * (y - 1) + x - 1;
    }

    /** A direction of a cell; NONE makes it blank. */
    Field cell(int x, int y, int direction) {
        signs[y][x] = direction == -1 ? '.' : (char) ('0' + direction);
        return this;
    }

    /** The four cells around a corner, in turn from that above it on its left. */
    Field around(int x, int y, int... directions) {
        cell(x - 1, y - 1, directions[0]);
        cell(x, y - 1, directions[1]);
        cell(x, y, directions[2]);
        return cell(x - 1, y, directions[3]);
    }

    Field core(int x, int y) {
        return around(x, y, 0, 2, 4, 6);
    }

    Field delta(int x, int y) {
        return around(x, y, 0, 6, 4, 2);
    }

    String text() {
        StringBuilder text = new StringBuilder();
        for (char[] row : signs) {
            text.append(text.length() == 0 ? "" : "/").append(row);
        }
        return text.toString();
    }

    /** Its print's number in a bureau. */
    int on(RidgeBureau x) {
        return Due.print(x, text());
    }
}
