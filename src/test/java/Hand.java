import java.nio.charset.StandardCharsets;
import java.util.NoSuchElementException;

/** What the tests do by hand again and again: feed a text, tell a window, read off walls and windows. */
final class Hand {
    static final int MIN = Integer.MIN_VALUE;
    static final int MAX = Integer.MAX_VALUE;
    /** Stands for the exception of value(), which no value can be. */
    static final int THROWN = -7;

    private Hand() {
    }

    /** The signs of a text as they go into the three numbers of one call of feed(). */
    static long[] words(String text) {
        byte[] signs = text.getBytes(StandardCharsets.ISO_8859_1);
        long[] words = new long[3];
        for (int k = 0; k < signs.length; k++) {
            words[k / 8] |= (signs[k] & 255L) << 56 - k % 8 * 8;
        }
        return words;
    }

    static int feed(ThroughWindow x, String text) {
        int length = x.count(4);
        for (int at = 0; at < text.length(); at += 24) {
            long[] words = words(text.substring(at, Math.min(at + 24, text.length())));
            length = x.feed(words[0], words[1], words[2]);
        }
        return length;
    }

    static int tell(ThroughWindow x, int window, String text) {
        feed(x, text);
        return x.window(window);
    }

    static int valueOf(ThroughWindow x, int wall, int key, int column) {
        try {
            return x.value(wall, key, column);
        } catch (NoSuchElementException e) {
            return THROWN;
        }
    }

    /** The rows of a wall by keys, as "1 5, 2 5, 3 9". */
    static String held(ThroughWindow x, int wall) {
        StringBuilder b = new StringBuilder();
        for (int key = 0; key < 20; key++) {
            for (int column = 0; column < 5; column++) {
                int value = valueOf(x, wall, key, column);
                if (value == THROWN) {
                    break;
                }
                b.append(column > 0 ? " " : b.length() > 0 ? ", " : "").append(value);
            }
        }
        return b.toString();
    }

    /** What is seen through a window, as "5, 5, 9"; "none" for a window that is not told. */
    static String shown(ThroughWindow x, int window) {
        if (x.look(window, 0) < 0) {
            return "none";
        }
        StringBuilder b = new StringBuilder();
        for (int i = 0; i < x.look(window, 0); i++) {
            for (int j = 0; j < x.look(window, 1); j++) {
                b.append(j > 0 ? " " : i > 0 ? ", " : "").append(x.seen(window, i, j));
            }
        }
        return b.toString();
    }

    /** The source of a value that is seen, as "0.1.2"; "none" where it has none. */
    static String sourceOf(ThroughWindow x, int window, int i, int j) {
        int wall = x.source(window, i, j, 0);
        int key = x.source(window, i, j, 1);
        int column = x.source(window, i, j, 2);
        return wall < 0 && key < 0 && column < 0 ? "none" : wall + "." + key + "." + column;
    }

    /** The n-th way of an edit as "price kind wall key column value". */
    static String wayOf(ThroughWindow x, int[] edit, int n) {
        StringBuilder b = new StringBuilder();
        for (int what = 0; what < 6; what++) {
            b.append(what > 0 ? " " : "").append(x.way(edit[0], edit[1], edit[2], edit[3], edit[4], n, what));
        }
        return b.toString();
    }

    /** The law that bars an edit as "wall column kind". */
    static String barredBy(ThroughWindow x, int... edit) {
        StringBuilder b = new StringBuilder();
        for (int what = 0; what < 3; what++) {
            b.append(what > 0 ? " " : "").append(x.barred(edit[0], edit[1], edit[2], edit[3], edit[4], what));
        }
        return b.toString();
    }

    /** A new object with walls of so many columns (0: not told) and rows told as {wall, key, values ..}. */
    static ThroughWindow walls(int[] columns, int[]... rows) {
        ThroughWindow x = new ThroughWindow();
        for (int w = 0; w < columns.length; w++) {
            if (columns[w] > 0 && !x.wall(w, columns[w])) {
                throw new IllegalStateException("the wall of a test is refused");
            }
        }
        for (int[] row : rows) {
            int[] all = java.util.Arrays.copyOf(row, 5);
            if (!x.row(all[0], all[1], all[2], all[3], all[4])) {
                throw new IllegalStateException("the row of a test is refused");
            }
        }
        return x;
    }

    static int[] columns(int... columns) {
        return columns;
    }

    static int[] row(int... row) {
        return row;
    }

    static int[] edit(int... edit) {
        return edit;
    }
}
