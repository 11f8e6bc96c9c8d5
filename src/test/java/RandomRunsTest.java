import java.util.NoSuchElementException;
import java.util.Random;

/** Long runs of calls, the same ones on the class and on the plain reading of the document. */
public final class RandomRunsTest {
    private static final int[] WILD = {-1, 0, 1, -2, 3, 9, 10, 19, 20, 80, 200, 1 << 20, Integer.MAX_VALUE,
        Integer.MIN_VALUE};

    private final Checks checks;
    private final Random random;
    private final ThroughWindow x = new ThroughWindow();
    private final Plain y = new Plain();
    /** Few values make alike rows, laws that bind and edits with many ways. */
    private final int values;
    /** Keys as near as values make columns that name them and joins that find them. */
    private final int keys;
    private final int wildness;
    private final int heavy;

    private RandomRunsTest(Checks checks, long seed, int heavy) {
        this.checks = checks;
        random = new Random(seed);
        values = 2 + random.nextInt(19);
        keys = random.nextInt(3) == 0 ? 20 : Math.max(values, 8);
        wildness = random.nextInt(5) == 0 ? 12 : 150;
        this.heavy = heavy;
    }

    public static void main(String[] args) {
        int runs = args.length > 0 ? Integer.parseInt(args[0]) : 150;
        long first = args.length > 1 ? Long.parseLong(args[1]) : 1;
        Checks checks = new Checks("RandomRunsTest");
        for (int run = 0; run < runs; run++) {
            checks.part("run " + (first + run));
            new RandomRunsTest(checks, first + run, 30).go(150);
        }
        checks.end();
    }

    private int upTo(int n) {
        return random.nextInt(wildness) == 0 ? WILD[random.nextInt(WILD.length)] : random.nextInt(n + 1);
    }

    private int aValue() {
        return upTo(values - 1);
    }

    private void due(String call, long got, long want) {
        checks.due(call, got, want);
    }

    private void due(String call, boolean got, boolean want) {
        checks.due(call, got ? 1 : 0, want ? 1 : 0);
    }

    private void go(int calls) {
        for (int w = 0; w < 3; w++) {
            if (random.nextInt(8) > 0) {
                int n = 4 - random.nextInt(5) * random.nextInt(5) / 5;
                due("wall " + w, x.wall(w, n), y.wall(w, n));
            }
        }
        for (int n = random.nextInt(8); n > 0; n--) {
            law();
        }
        for (int n = random.nextInt(50); n > 0; n--) {
            row();
        }
        for (int n = random.nextInt(8); n > 0; n--) {
            law();
        }
        for (int n = 2 + random.nextInt(8); n > 0; n--) {
            window();
        }
        for (int n = 0; n < calls; n++) {
            call();
        }
        compareAll();
    }

    private void row() {
        int w = upTo(2);
        int a = upTo(keys - 1);
        int b = aValue();
        int c = aValue();
        int d = aValue();
        due("row(" + w + "," + a + "," + b + "," + c + "," + d + ")", x.row(w, a, b, c, d), y.row(w, a, b, c, d));
    }

    private void law() {
        int w = upTo(2);
        int c = upTo(3);
        switch (random.nextInt(3)) {
            case 0 -> {
                int from = random.nextInt(3) == 0 ? upTo(5) : 0;
                int to = values - 1 + upTo(5);
                due("span(" + w + "," + c + "," + from + "," + to + ")", x.span(w, c, from, to), y.span(w, c, from, to));
            }
            case 1 -> {
                int other = upTo(3) - 1;
                due("names(" + w + "," + c + "," + other + ")", x.names(w, c, other), y.names(w, c, other));
            }
            default -> {
                boolean yes = random.nextBoolean();
                due("once(" + w + "," + c + "," + yes + ")", x.once(w, c, yes), y.once(w, c, yes));
            }
        }
    }

    private int number(int n) {
        return random.nextInt(40) == 0 ? random.nextInt(250) : random.nextInt(Math.max(1, n));
    }

    /** A text that is mostly a window; its width is followed roughly, so that faults come now and then. */
    private String text(int w) {
        StringBuilder b = new StringBuilder("over ");
        int width;
        int lower = w > 0 ? random.nextInt(w) : 0;
        if (w > 0 && random.nextBoolean() && y.look(lower, 1) > 0) {
            b.append("window ").append(lower).append(" ; ");
            width = y.look(lower, 1);
        } else {
            int wall = random.nextInt(20) == 0 ? random.nextInt(4) : aWall();
            b.append("wall ").append(wall).append(";");
            width = Math.max(1, wall > 2 ? 1 : y.columns[wall]);
        }
        for (int n = random.nextInt(random.nextInt(6) == 0 ? 9 : 4); n > 0; n--) {
            switch (random.nextInt(6)) {
                case 0, 1 -> {
                    String[] how = {"less", "is", "more"};
                    int k = random.nextInt(3);
                    int bound = k == 0 ? values / 2 + number(values) : k == 1 ? number(values) : number(values / 2 + 1);
                    b.append("cut ").append(number(width)).append(' ').append(how[k]).append(' ').append(bound);
                }
                case 2 -> {
                    b.append("few");
                    int picks = 1 + random.nextInt(width);
                    int first = random.nextInt(width);
                    for (int k = 0; k < picks; k++) {
                        b.append(' ').append(random.nextInt(60) == 0 ? number(width) : (first + k) % width);
                    }
                    width = picks;
                }
                case 3 -> {
                    int wall = aWall();
                    b.append("join ").append(wall).append(" by ").append(number(width));
                    width += Math.max(0, y.columns[wall] - 1);
                }
                case 4 -> {
                    int by = number(width);
                    b.append("sum ").append((by + 1) % width).append(" by ").append(by);
                    width = 2;
                }
                default -> b.append("fill ").append(number(4)).append(' ').append(number(20));
            }
            b.append(random.nextBoolean() ? ";" : " ;\n");
        }
        if (random.nextInt(6) == 0 && b.length() > 2) {
            String signs = "0123456789 ;abcdefghijklmnopqrstuvwxyz~A=\n";
            int at = random.nextInt(b.length());
            switch (random.nextInt(3)) {
                case 0 -> b.setCharAt(at, signs.charAt(random.nextInt(signs.length())));
                case 1 -> b.deleteCharAt(at);
                default -> b.insert(at, signs.charAt(random.nextInt(signs.length())));
            }
        }
        return b.toString();
    }

    private void window() {
        int w = random.nextInt(4) == 0 ? upTo(5) : random.nextInt(3) + random.nextInt(4);
        String text = text(Math.max(0, Math.min(5, w)));
        for (int at = 0; at < text.length(); at += 24) {
            long[] words = Hand.words(text.substring(at, Math.min(at + 24, text.length())));
            due("feed", x.feed(words[0], words[1], words[2]), y.feed(words[0], words[1], words[2]));
        }
        due("window(" + w + ") of " + text, x.window(w), y.window(w));
    }

    private int aWall() {
        int w = random.nextInt(3);
        return y.columns[w] > 0 ? w : random.nextInt(3);
    }

    private int aWindow() {
        for (int n = 0; n < 12; n++) {
            int w = random.nextInt(6);
            if (y.look(w, 0) > 0) {
                return w;
            }
        }
        return upTo(5);
    }

    private int aRow(int w) {
        return upTo(Math.max(0, y.look(w, 0) - 1));
    }

    private int aColumn(int w) {
        return upTo(Math.max(0, y.look(w, 1) - 1));
    }

    private int wish(int w, int i, int j) {
        int now = y.seen(w, i, j);
        return switch (random.nextInt(4)) {
            case 0 -> Math.max(0, now + random.nextInt(7) - 3);
            case 1 -> random.nextInt(3) == 0 ? now : aValue();
            case 2 -> y.seen(w, aRow(w), j);
            default -> random.nextInt(5) == 0 ? upTo(199) : aValue();
        };
    }

    private void edit(int kind) {
        int w = aWindow();
        int edit = random.nextInt(20) == 0 ? upTo(3) : random.nextInt(3);
        int i = aRow(w);
        int j = aColumn(w);
        int v = wish(w, i, j);
        String args = "(" + w + "," + edit + "," + i + "," + j + "," + v + ")";
        switch (kind) {
            case 0 -> due("ways" + args, x.ways(w, edit, i, j, v), y.ways(w, edit, i, j, v));
            case 1 -> {
                int n = upTo(8) - 1;
                for (int what = -1; what < 7; what++) {
                    due("way" + args + n + "," + what, x.way(w, edit, i, j, v, n, what), y.way(w, edit, i, j, v, n, what));
                }
            }
            case 2 -> due("why" + args, x.why(w, edit, i, j, v), y.why(w, edit, i, j, v));
            case 3 -> {
                for (int what = -1; what < 4; what++) {
                    due("barred" + args + what, x.barred(w, edit, i, j, v, what), y.barred(w, edit, i, j, v, what));
                }
            }
            default -> due("put" + args, x.put(w, edit, i, j, v), y.put(w, edit, i, j, v));
        }
    }

    private void pair(int kind) {
        int w = aWindow();
        int i = aRow(w);
        int j = aColumn(w);
        int v = wish(w, i, j);
        int u = wish(w, i, j);
        int b = aWindow();
        int q = 8 * random.nextInt(Math.max(1, y.look(b, 0))) + random.nextInt(Math.max(1, y.look(b, 1)));
        int t = wish(b, q / 8, q % 8);
        int p = random.nextInt(30) == 0 ? upTo(79) : 8 * Math.max(0, Math.min(i, 9)) + Math.max(0, Math.min(7, j));
        switch (kind) {
            case 0 -> due("twice(" + w + "," + i + "," + j + "," + u + "," + v + ")", x.twice(w, i, j, u, v),
                    y.twice(w, i, j, u, v));
            case 1 -> due("back(" + w + "," + i + "," + j + "," + v + ")", x.back(w, i, j, v), y.back(w, i, j, v));
            case 2 -> due("clash(" + w + "," + p + "," + v + "," + b + "," + q + "," + t + ")",
                    x.clash(w, p, v, b, q, t), y.clash(w, p, v, b, q, t));
            default -> {
                int c = upTo(2);
                int to = random.nextInt(5) == 0 ? -1 : w;
                due("clerk(" + c + "," + to + "," + p + "," + v + ")", x.clerk(c, to, p, v), y.clerk(c, to, p, v));
            }
        }
    }

    private void call() {
        int w = upTo(2);
        int c = upTo(3);
        switch (random.nextInt(heavy)) {
            case 0 -> row();
            case 1 -> {
                int key = upTo(keys - 1);
                due("out(" + w + "," + key + ")", x.out(w, key), y.out(w, key));
            }
            case 2 -> {
                law();
                if (random.nextInt(4) == 0) {
                    int n = upTo(5);
                    due("wall(" + w + "," + n + ")", x.wall(w, n), y.wall(w, n));
                }
            }
            case 3, 4 -> window();
            case 5 -> feedWild();
            case 6, 7 -> look();
            case 8, 9 -> {
                int n = aValue();
                int to = upTo(7);
                due("draft(" + to + "," + n + ")", x.draft(to, n), y.draft(to, n));
            }
            case 10, 11 -> edit(0);
            case 12 -> edit(1);
            case 13, 14 -> edit(2);
            case 15, 16 -> edit(3);
            case 17, 18 -> edit(4);
            case 19 -> pair(0);
            case 20 -> pair(1);
            case 21 -> pair(2);
            case 22, 23 -> pair(3);
            case 24 -> {
                int what = upTo(3);
                due("night(" + what + ")", x.night(what), y.night(what));
            }
            case 25 -> {
                int v = aWindow();
                for (int what = -1; what < 3; what++) {
                    due("carried(" + v + "," + what + ")", x.carried(v, what), y.carried(v, what));
                }
            }
            case 26 -> cuts(w);
            case 27 -> {
                int from = upTo(10);
                int to = upTo(19);
                due("moves(" + w + "," + c + ")", x.moves(w, c, from, to), y.moves(w, c, from, to));
            }
            case 28 -> {
                int mark = upTo(3);
                boolean back = random.nextBoolean();
                due("mark(" + mark + "," + back + ")", x.mark(mark, back), y.mark(mark, back));
            }
            default -> {
                int v = aWindow();
                due("fits(" + v + "," + w + ")", x.fits(v, w), y.fits(v, w));
            }
        }
        for (int what = -1; what < 7; what++) {
            due("count(" + what + ")", x.count(what), y.count(what));
        }
    }

    private void feedWild() {
        for (int n = random.nextInt(20) == 0 ? 45 : random.nextInt(2); n >= 0; n--) {
            long a = random.nextLong();
            long b = random.nextLong() & 0x3f3f3f3f3f3f3f3fL;
            long c = random.nextLong() & 0x7f7f7f7f7f7f7f7fL | 0x2020202020202020L;
            due("feed(" + a + "," + b + "," + c + ")", x.feed(a, b, c), y.feed(a, b, c));
        }
        if (random.nextInt(4) > 0) {
            int w = upTo(5);
            due("window(" + w + ")", x.window(w), y.window(w));
        }
    }

    private void look() {
        int w = aWindow();
        for (int what = -1; what < 6; what++) {
            due("look(" + w + "," + what + ")", x.look(w, what), y.look(w, what));
        }
        for (int i = -1; i <= y.look(w, 0); i++) {
            for (int j = -1; j <= y.look(w, 1); j++) {
                due("seen(" + w + "," + i + "," + j + ")", x.seen(w, i, j), y.seen(w, i, j));
                for (int what = -1; what < 4; what++) {
                    due("source(" + w + "," + i + "," + j + "," + what + ")", x.source(w, i, j, what),
                            y.source(w, i, j, what));
                }
            }
        }
    }

    private void cuts(int w) {
        int rows = Math.max(0, y.count(w < 0 || w > 2 ? 0 : w));
        int set = random.nextInt(10) == 0 ? upTo(1 << rows) : random.nextInt(1 << rows) & random.nextInt(1 << rows);
        for (int what = -1; what < 5; what++) {
            due("cuts(" + w + "," + set + "," + what + ")", x.cuts(w, set, what), y.cuts(w, set, what));
        }
    }

    private void compareAll() {
        for (int w = -1; w < 4; w++) {
            for (int key = -1; key < 21; key++) {
                for (int c = -1; c < 5; c++) {
                    due("value(" + w + "," + key + "," + c + ")", valueOf(w, key, c, true), valueOf(w, key, c, false));
                }
            }
        }
    }

    private int valueOf(int w, int key, int c, boolean ofClass) {
        try {
            return ofClass ? x.value(w, key, c) : y.value(w, key, c);
        } catch (NoSuchElementException e) {
            return -7;
        }
    }
}
