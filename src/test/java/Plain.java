import java.util.ArrayList;
import java.util.Arrays;
import java.util.Comparator;
import java.util.HashSet;
import java.util.LinkedHashMap;
import java.util.List;
import java.util.NoSuchElementException;
import java.util.TreeMap;
import java.util.regex.Matcher;
import java.util.regex.Pattern;

/**
 * The document read once more, as plainly as can be and without any care for speed or room: random
 * runs are made on it and on the class side by side. It shares no code with the class.
 */
final class Plain {
    /** Rows of the walls, by keys. */
    static final class State {
        final List<TreeMap<Integer, int[]>> walls = new ArrayList<>();

        State() {
            for (int w = 0; w < 3; w++) {
                walls.add(new TreeMap<>());
            }
        }

        State copy() {
            State c = new State();
            for (int w = 0; w < 3; w++) {
                for (int[] row : walls.get(w).values()) {
                    c.walls.get(w).put(row[0], row.clone());
                }
            }
            return c;
        }

        String text() {
            StringBuilder b = new StringBuilder();
            for (TreeMap<Integer, int[]> wall : walls) {
                for (int[] row : wall.values()) {
                    b.append(Arrays.toString(row));
                }
                b.append('/');
            }
            return b.toString();
        }
    }

    record Pane(String word, int[] n) { }

    /** A window as told; fills as pairs in the order told. */
    static final class Told {
        int wall = -1;
        int under = -1;
        final List<Pane> panes = new ArrayList<>();
        final List<int[]> fills = new ArrayList<>();
    }

    /** A value that is seen, with its source (null: none) and the base's own column (-1: none). */
    record Cell(int value, int[] source, int own) { }

    static final class Line {
        List<Cell> cells = new ArrayList<>();
        int order;
        boolean summed;

        List<Integer> values() {
            List<Integer> v = new ArrayList<>();
            for (Cell c : cells) {
                v.add(c.value());
            }
            return v;
        }
    }

    record Small(int price, int kind, int wall, int key, int column, int value, State after) { }

    final int[] columns = new int[3];
    final int[][] from = new int[3][4];
    final int[][] to = new int[3][4];
    final int[][] named = new int[3][4];
    final boolean[][] once = new boolean[3][4];
    State state = new State();
    State ahead;
    final State[] marks = new State[4];
    final Told[] windows = new Told[6];
    String tape = "";
    final int[] draft = new int[8];
    final int[][] clerks = new int[3][];

    Plain() {
        for (int w = 0; w < 3; w++) {
            Arrays.fill(to[w], 19);
            Arrays.fill(named[w], -1);
        }
    }

    private boolean toldWall(int w) {
        return w >= 0 && w <= 2 && columns[w] > 0;
    }

    private boolean toldWindow(int w) {
        return w >= 0 && w <= 5 && windows[w] != null;
    }

    private boolean isColumn(int w, int c) {
        return toldWall(w) && c >= 0 && c < columns[w];
    }

    /** All laws that a state breaks, in order, as wall, column, kind. */
    private List<int[]> broken(State s) {
        List<int[]> laws = new ArrayList<>();
        for (int w = 0; w < 3; w++) {
            for (int c = 0; c < columns[w]; c++) {
                List<Integer> all = new ArrayList<>();
                for (int[] row : s.walls.get(w).values()) {
                    all.add(row[c]);
                }
                final int low = from[w][c];
                final int high = to[w][c];
                if (all.stream().anyMatch(v -> v < low || v > high)) {
                    laws.add(new int[] {w, c, 1});
                }
                if (named[w][c] >= 0 && !s.walls.get(named[w][c]).keySet().containsAll(all)) {
                    laws.add(new int[] {w, c, 2});
                }
                if (once[w][c] && new HashSet<>(all).size() < all.size()) {
                    laws.add(new int[] {w, c, 3});
                }
            }
        }
        return laws;
    }

    private boolean lawful(State s) {
        return broken(s).isEmpty();
    }

    boolean wall(int w, int n) {
        if (w < 0 || w > 2 || columns[w] != 0 || n < 1 || n > 4) {
            return false;
        }
        columns[w] = n;
        return true;
    }

    boolean row(int w, int a, int b, int c, int d) {
        if (!toldWall(w)) {
            return false;
        }
        int[] row = Arrays.copyOf(new int[] {a, b, c, d}, columns[w]);
        if (Arrays.stream(row).anyMatch(v -> v < 0 || v > 19)) {
            return false;
        }
        State s = state.copy();
        if (s.walls.get(w).size() == 10 || s.walls.get(w).put(a, row) != null || !lawful(s)) {
            return false;
        }
        state = s;
        return true;
    }

    boolean out(int w, int key) {
        State s = state.copy();
        if (!toldWall(w) || s.walls.get(w).remove(key) == null || !lawful(s)) {
            return false;
        }
        state = s;
        return true;
    }

    boolean span(int w, int c, int a, int b) {
        if (moves(w, c, a, b) != 0) {
            return false;
        }
        from[w][c] = a;
        to[w][c] = b;
        return true;
    }

    boolean names(int w, int c, int other) {
        if (!isColumn(w, c) || c == 0 || other == w || other != -1 && !toldWall(other)) {
            return false;
        }
        int old = named[w][c];
        named[w][c] = other;
        if (!lawful(state)) {
            named[w][c] = old;
            return false;
        }
        return true;
    }

    boolean once(int w, int c, boolean yes) {
        if (!isColumn(w, c) || c == 0) {
            return false;
        }
        boolean old = once[w][c];
        once[w][c] = yes;
        if (!lawful(state)) {
            once[w][c] = old;
            return false;
        }
        return true;
    }

    int feed(long a, long b, long c) {
        for (long x : new long[] {a, b, c}) {
            for (int k = 7; k >= 0; k--) {
                char sign = (char) (x >>> 8 * k & 0xff);
                if (sign == 10 || sign >= 32 && sign <= 126) {
                    tape += sign;
                }
            }
        }
        tape = tape.substring(0, Math.min(1000, tape.length()));
        return tape.length();
    }

    /** A fault on the way through a text. */
    private static final class Fault extends Exception {
        private static final long serialVersionUID = 1;
        final int code;

        Fault(int kind, int place) {
            super(null, null, false, false);
            code = kind + 16 * place;
        }
    }

    private final class Text {
        final List<String> tokens = new ArrayList<>();
        final List<Integer> places = new ArrayList<>();
        int next;

        Text(String text) {
            Matcher m = Pattern.compile("[a-z]+|[0-9]+|[^ \n]").matcher(text);
            while (m.find()) {
                tokens.add(m.group());
                places.add(m.start());
            }
            tokens.add("");
            places.add(text.length());
        }

        String peek() {
            return tokens.get(next);
        }

        Fault fault(int kind) {
            return new Fault(kind, places.get(next));
        }

        String word(String... words) throws Fault {
            for (String w : words) {
                if (w.equals(peek())) {
                    next++;
                    return w;
                }
            }
            throw fault(1);
        }

        /** A number below a limit; the place stays at it. */
        int number(int limit) throws Fault {
            if (!peek().matches("[0-9]{1,3}")) {
                throw fault(1);
            }
            int n = Integer.parseInt(peek());
            if (n >= limit) {
                throw fault(4);
            }
            return n;
        }

        int taken(int limit) throws Fault {
            int n = number(limit);
            next++;
            return n;
        }
    }

    int window(int w) {
        String text = tape;
        tape = "";
        if (w < 0 || w > 5) {
            return -1;
        }
        for (Told t : windows) {
            if (t != null && t.under == w) {
                return -1;
            }
        }
        try {
            windows[w] = parse(new Text(text), w);
            return 0;
        } catch (Fault f) {
            return f.code;
        }
    }

    private Told parse(Text t, int w) throws Fault {
        Told told = new Told();
        t.word("over");
        int width;
        if (t.word("wall", "window").equals("wall")) {
            told.wall = t.number(3);
            if (!toldWall(told.wall)) {
                throw t.fault(2);
            }
            width = columns[told.wall];
        } else {
            told.under = t.number(w);
            if (!toldWindow(told.under)) {
                throw t.fault(2);
            }
            width = widthOf(windows[told.under]);
        }
        t.next++;
        t.word(";");
        while (!t.peek().isEmpty()) {
            boolean full = told.panes.size() == 6;
            if (full && List.of("cut", "few", "join", "sum").contains(t.peek())) {
                throw t.fault(5);
            }
            switch (t.word("cut", "few", "join", "sum", "fill")) {
                case "cut" -> {
                    int c = t.taken(width);
                    String how = t.word("less", "is", "more");
                    told.panes.add(new Pane(how, new int[] {c, t.taken(200)}));
                }
                case "few" -> {
                    List<Integer> few = new ArrayList<>();
                    do {
                        int c = t.number(width);
                        if (few.contains(c)) {
                            throw t.fault(3);
                        }
                        few.add(c);
                        t.next++;
                    } while (!t.peek().equals(";"));
                    told.panes.add(new Pane("few", few.stream().mapToInt(x -> x).toArray()));
                }
                case "join" -> {
                    int n = t.number(3);
                    if (!toldWall(n)) {
                        throw t.fault(2);
                    }
                    if (width + columns[n] - 1 > 8) {
                        throw t.fault(5);
                    }
                    t.next++;
                    t.word("by");
                    told.panes.add(new Pane("join", new int[] {n, t.taken(width)}));
                }
                case "sum" -> {
                    int c = t.taken(width);
                    t.word("by");
                    if (t.number(width) == c) {
                        throw t.fault(3);
                    }
                    told.panes.add(new Pane("sum", new int[] {c, t.taken(width)}));
                }
                default -> {
                    int c = t.taken(columns[baseOf(told)]);
                    told.fills.add(new int[] {c, t.taken(20)});
                }
            }
            t.word(";");
            width = widthOf(told);
        }
        return told;
    }

    private int baseOf(Told t) {
        return t.under >= 0 ? baseOf(windows[t.under]) : t.wall;
    }

    /** Of each column the base's own column that it shows, -1 for others. */
    private List<Integer> owns(Told t) {
        List<Integer> own = new ArrayList<>();
        if (t.under >= 0) {
            own.addAll(owns(windows[t.under]));
        } else {
            for (int c = 0; c < columns[t.wall]; c++) {
                own.add(c);
            }
        }
        for (Pane p : t.panes) {
            if (p.word().equals("few")) {
                List<Integer> few = new ArrayList<>();
                for (int c : p.n()) {
                    few.add(own.get(c));
                }
                own = few;
            } else if (p.word().equals("join")) {
                for (int c = 1; c < columns[p.n()[0]]; c++) {
                    own.add(-1);
                }
            } else if (p.word().equals("sum")) {
                own = new ArrayList<>(List.of(-1, -1));
            }
        }
        return own;
    }

    private int widthOf(Told t) {
        return owns(t).size();
    }

    private boolean isSummed(Told t) {
        return t.panes.stream().anyMatch(p -> p.word().equals("sum")) || t.under >= 0 && isSummed(windows[t.under]);
    }

    private int panesOf(Told t) {
        return t.panes.size() + (t.under >= 0 ? panesOf(windows[t.under]) : 0);
    }

    private int wallsOf(Told t) {
        int bits = t.under >= 0 ? wallsOf(windows[t.under]) : 1 << t.wall;
        for (Pane p : t.panes) {
            if (p.word().equals("join")) {
                bits |= 1 << p.n()[0];
            }
        }
        return bits;
    }

    private int fillOf(Told t, int c) {
        for (int k = t.fills.size() - 1; k >= 0; k--) {
            if (t.fills.get(k)[0] == c) {
                return t.fills.get(k)[1];
            }
        }
        return t.under >= 0 ? fillOf(windows[t.under], c) : 0;
    }

    private List<Line> see(Told t, State s) {
        List<Line> lines = new ArrayList<>();
        if (t.under >= 0) {
            lines.addAll(see(windows[t.under], s));
        } else {
            for (int[] row : s.walls.get(t.wall).values()) {
                Line line = new Line();
                line.order = row[0];
                for (int c = 0; c < row.length; c++) {
                    line.cells.add(new Cell(row[c], new int[] {t.wall, row[0], c}, c));
                }
                lines.add(line);
            }
        }
        for (Pane p : t.panes) {
            lines = through(p, lines, s);
        }
        Comparator<Line> byValues = (x, y) -> compare(x.values(), y.values());
        lines.sort(byValues.thenComparing(x -> x.order));
        return lines;
    }

    private static int compare(List<Integer> x, List<Integer> y) {
        for (int k = 0; k < x.size(); k++) {
            if (!x.get(k).equals(y.get(k))) {
                return x.get(k) < y.get(k) ? -1 : 1;
            }
        }
        return 0;
    }

    private List<Line> through(Pane p, List<Line> lines, State s) {
        List<Line> left = new ArrayList<>();
        if (p.word().equals("sum")) {
            LinkedHashMap<Integer, Integer> sums = new LinkedHashMap<>();
            for (Line l : lines) {
                sums.merge(l.cells.get(p.n()[1]).value(), l.cells.get(p.n()[0]).value(), Integer::sum);
            }
            sums.forEach((value, sum) -> {
                Line l = new Line();
                l.order = left.size();
                l.summed = true;
                l.cells.add(new Cell(value, null, -1));
                l.cells.add(new Cell(sum, null, -1));
                left.add(l);
            });
            return left;
        }
        for (Line old : lines) {
            Line l = new Line();
            l.order = old.order;
            l.summed = old.summed;
            boolean stays = true;
            int v = old.cells.get(p.word().equals("join") ? p.n()[1] : p.n()[0]).value();
            switch (p.word()) {
                case "less" -> stays = v < p.n()[1];
                case "is" -> stays = v == p.n()[1];
                case "more" -> stays = v > p.n()[1];
                default -> { }
            }
            if (p.word().equals("few")) {
                for (int c : p.n()) {
                    l.cells.add(old.cells.get(c));
                }
            } else {
                l.cells.addAll(old.cells);
            }
            if (p.word().equals("join")) {
                int[] other = s.walls.get(p.n()[0]).get(v);
                stays = other != null;
                for (int c = 1; stays && c < other.length; c++) {
                    l.cells.add(new Cell(other[c], new int[] {p.n()[0], v, c}, -1));
                }
            }
            if (stays) {
                left.add(l);
            }
        }
        return left;
    }

    private List<List<Integer>> values(Told t, State s) {
        List<List<Integer>> all = new ArrayList<>();
        for (Line l : see(t, s)) {
            all.add(l.values());
        }
        return all;
    }

    int value(int w, int key, int c) {
        if (!isColumn(w, c) || !state.walls.get(w).containsKey(key)) {
            throw new NoSuchElementException();
        }
        return state.walls.get(w).get(key)[c];
    }

    private Cell cell(int w, int i, int j) {
        if (!toldWindow(w)) {
            return null;
        }
        List<Line> lines = see(windows[w], state);
        if (i < 0 || i >= lines.size() || j < 0 || j >= lines.get(i).cells.size()) {
            return null;
        }
        return lines.get(i).cells.get(j);
    }

    int seen(int w, int i, int j) {
        Cell c = cell(w, i, j);
        return c == null ? -1 : c.value();
    }

    int source(int w, int i, int j, int what) {
        Cell c = cell(w, i, j);
        return c == null || c.source() == null || what < 0 || what > 2 ? -1 : c.source()[what];
    }

    int look(int w, int what) {
        if (!toldWindow(w)) {
            return -1;
        }
        Told t = windows[w];
        return switch (what) {
            case 0 -> see(t, state).size();
            case 1 -> widthOf(t);
            case 2 -> panesOf(t);
            case 3 -> baseOf(t);
            case 4 -> wallsOf(t);
            default -> -1;
        };
    }

    boolean draft(int c, int n) {
        if (c < 0 || c > 7 || n < 0 || n > 19) {
            return false;
        }
        draft[c] = n;
        return true;
    }

    private boolean isEdit(State s, int w, int edit, int i, int j, int v) {
        if (!toldWindow(w) || edit < 0 || edit > 2) {
            return false;
        }
        int rows = see(windows[w], s).size();
        boolean row = i >= 0 && i < rows;
        boolean place = row && j >= 0 && j < widthOf(windows[w]) && v >= 0 && v <= 199;
        return edit == 2 || edit == 1 && row || place;
    }

    private List<List<Integer>> wanted(State s, int w, int edit, int i, int j, int v) {
        List<List<Integer>> all = values(windows[w], s);
        if (edit == 0) {
            all.get(i).set(j, v);
        } else if (edit == 1) {
            all.remove(i);
        } else {
            List<Integer> row = new ArrayList<>();
            for (int c = 0; c < widthOf(windows[w]); c++) {
                row.add(draft[c]);
            }
            all.add(row);
        }
        all.sort(Plain::compare);
        return all;
    }

    /** The walls with the drafted row in the base; null: it can't come. */
    private State withDrafted(State s, Told t) {
        int base = baseOf(t);
        int[] row = new int[columns[base]];
        for (int c = 0; c < row.length; c++) {
            int shown = owns(t).indexOf(c);
            row[c] = shown >= 0 ? draft[shown] : fillOf(t, c);
        }
        State after = s.copy();
        if (after.walls.get(base).size() == 10 || after.walls.get(base).containsKey(row[0])) {
            return null;
        }
        after.walls.get(base).put(row[0], row);
        return after;
    }

    private static int addedKey(State before, State after, int wall) {
        for (int key : after.walls.get(wall).keySet()) {
            if (!before.walls.get(wall).containsKey(key)) {
                return key;
            }
        }
        return -1;
    }

    private List<Small> smalls(State s, Told t) {
        List<Small> all = new ArrayList<>();
        all.add(new Small(0, 0, -1, -1, -1, -1, s.copy()));
        for (int w = 0; w < 3; w++) {
            if ((wallsOf(t) & 1 << w) != 0) {
                for (int key : s.walls.get(w).keySet()) {
                    for (int c = 1; c < columns[w]; c++) {
                        for (int v = 0; v < 20; v++) {
                            State after = s.copy();
                            after.walls.get(w).get(key)[c] = v;
                            if (v != s.walls.get(w).get(key)[c]) {
                                all.add(new Small(1, 1, w, key, c, v, after));
                            }
                        }
                    }
                }
            }
        }
        for (int w = 0; w < 3; w++) {
            if ((wallsOf(t) & 1 << w) != 0) {
                for (int key : s.walls.get(w).keySet()) {
                    State after = s.copy();
                    after.walls.get(w).remove(key);
                    all.add(new Small(columns[w], 2, w, key, -1, -1, after));
                }
            }
        }
        State after = withDrafted(s, t);
        if (after != null) {
            int base = baseOf(t);
            all.add(new Small(columns[base], 3, base, addedKey(s, after, base), -1, -1, after));
        }
        return all;
    }

    /** The ways of an edit; null: it is none. */
    private List<Small> waysOf(State s, int w, int edit, int i, int j, int v) {
        if (!isEdit(s, w, edit, i, j, v)) {
            return null;
        }
        List<List<Integer>> wanted = wanted(s, w, edit, i, j, v);
        List<Small> ways = new ArrayList<>();
        for (Small small : smalls(s, windows[w])) {
            if (lawful(small.after()) && values(windows[w], small.after()).equals(wanted)) {
                ways.add(small);
            }
        }
        return ways;
    }

    private static Small least(List<Small> ways) {
        Small best = null;
        if (ways != null) {
            for (Small small : ways) {
                if (best == null || small.price() < best.price()) {
                    best = small;
                }
            }
        }
        return best;
    }

    int ways(int w, int edit, int i, int j, int v) {
        List<Small> ways = waysOf(state, w, edit, i, j, v);
        return ways == null ? -1 : ways.size();
    }

    int way(int w, int edit, int i, int j, int v, int n, int what) {
        List<Small> ways = waysOf(state, w, edit, i, j, v);
        if (ways == null || n < -1 || n >= ways.size() || ways.isEmpty()) {
            return -1;
        }
        Small small = n == -1 ? least(ways) : ways.get(n);
        return switch (what) {
            case 0 -> small.price();
            case 1 -> small.kind();
            case 2 -> small.wall();
            case 3 -> small.key();
            case 4 -> small.column();
            case 5 -> small.value();
            default -> -1;
        };
    }

    /** What straight brings; null: it can't be done. */
    private State straight(int w, int edit, int i, int j, int v) {
        Told t = windows[w];
        if (edit == 2) {
            return withDrafted(state, t);
        }
        State after = state.copy();
        Line line = see(t, state).get(i);
        if (edit == 1) {
            if (isSummed(t)) {
                return null;
            }
            after.walls.get(baseOf(t)).remove(line.order);
            return after;
        }
        int[] source = line.cells.get(j).source();
        if (source == null || source[2] == 0 || v > 19) {
            return null;
        }
        after.walls.get(source[0]).get(source[1])[source[2]] = v;
        return after;
    }

    int why(int w, int edit, int i, int j, int v) {
        if (!isEdit(state, w, edit, i, j, v)) {
            return -1;
        }
        State after = straight(w, edit, i, j, v);
        if (after == null) {
            return 1;
        }
        List<List<Integer>> wanted = wanted(state, w, edit, i, j, v);
        List<List<Integer>> got = values(windows[w], after);
        return (lawful(after) ? 0 : 1) + (got.size() != wanted.size() ? 2 : got.equals(wanted) ? 0 : 4);
    }

    int barred(int w, int edit, int i, int j, int v, int what) {
        if (!isEdit(state, w, edit, i, j, v) || what < 0 || what > 2) {
            return -1;
        }
        State after = straight(w, edit, i, j, v);
        return after == null || lawful(after) ? -1 : broken(after).get(0)[what];
    }

    int put(int w, int edit, int i, int j, int v) {
        Small best = least(waysOf(state, w, edit, i, j, v));
        if (best == null) {
            return -1;
        }
        ahead = state;
        state = best.after();
        return best.price();
    }

    /** The walls after a change was put; null: it can't. */
    private State after(State s, int w, int i, int j, int v) {
        Small best = s == null ? null : least(waysOf(s, w, 0, i, j, v));
        return best == null ? null : best.after();
    }

    private static boolean alike(State a, State b) {
        return a != null && b != null && a.text().equals(b.text());
    }

    int twice(int w, int i, int j, int u, int v) {
        if (!isEdit(state, w, 0, i, j, u) || !isEdit(state, w, 0, i, j, v)) {
            return -1;
        }
        return alike(after(after(state, w, i, j, u), w, i, j, v), after(state, w, i, j, v)) ? 1 : 0;
    }

    int back(int w, int i, int j, int v) {
        if (!isEdit(state, w, 0, i, j, v)) {
            return -1;
        }
        return alike(after(after(state, w, i, j, v), w, i, j, seen(w, i, j)), state) ? 1 : 0;
    }

    int clash(int a, int p, int v, int b, int q, int w) {
        if (p < 0 || q < 0 || !isEdit(state, a, 0, p / 8, p % 8, v) || !isEdit(state, b, 0, q / 8, q % 8, w)) {
            return -1;
        }
        State ab = after(after(state, a, p / 8, p % 8, v), b, q / 8, q % 8, w);
        State ba = after(after(state, b, q / 8, q % 8, w), a, p / 8, p % 8, v);
        if (ab != null && ba != null) {
            return alike(ab, ba) ? 0 : 1;
        }
        return ab != null ? 2 : ba != null ? 3 : 4;
    }

    private List<int[]> arrangements(int width, int picks) {
        List<int[]> all = new ArrayList<>();
        all.add(new int[0]);
        for (int k = 0; k < picks; k++) {
            List<int[]> longer = new ArrayList<>();
            for (int[] few : all) {
                for (int c = 0; c < width; c++) {
                    final int column = c;
                    if (Arrays.stream(few).noneMatch(x -> x == column)) {
                        int[] more = Arrays.copyOf(few, k + 1);
                        more[k] = c;
                        longer.add(more);
                    }
                }
            }
            all = longer;
        }
        return all;
    }

    private List<Pane> allCuts(int wall) {
        List<Pane> all = new ArrayList<>();
        for (int c = 0; c < columns[wall]; c++) {
            for (String how : new String[] {"less", "is", "more"}) {
                for (int n = 0; n < 200; n++) {
                    all.add(new Pane(how, new int[] {c, n}));
                }
            }
        }
        return all;
    }

    int fits(int w, int wall) {
        if (!toldWindow(w) || !toldWall(wall)) {
            return -1;
        }
        List<List<Integer>> target = values(windows[w], state);
        int fits = 0;
        List<Pane> cuts = allCuts(wall);
        cuts.add(null);
        List<int[]> fews = arrangements(columns[wall], widthOf(windows[w]));
        for (Pane cut : cuts) {
            Told t = new Told();
            t.wall = wall;
            if (cut != null) {
                t.panes.add(cut);
            }
            if (see(t, state).size() != target.size()) {
                continue;
            }
            for (int[] few : fews) {
                t.panes.add(new Pane("few", few));
                if (values(t, state).equals(target)) {
                    fits++;
                }
                t.panes.remove(t.panes.size() - 1);
            }
        }
        return fits;
    }

    boolean clerk(int c, int w, int place, int v) {
        if (c < 0 || c > 2) {
            return false;
        }
        if (w == -1) {
            clerks[c] = null;
            return true;
        }
        if (!toldWindow(w) || place < 0 || place > 79 || v < 0 || v > 199) {
            return false;
        }
        clerks[c] = new int[] {w, place, v};
        return true;
    }

    private void night(List<int[]> left, State s, int done, int all, List<Object[]> ends) {
        if (left.isEmpty()) {
            ends.add(new Object[] {done, s.text()});
        }
        for (int k = 0; k < left.size(); k++) {
            List<int[]> rest = new ArrayList<>(left);
            int[] c = rest.remove(k);
            State next = after(s, c[0], c[1] / 8, c[1] % 8, c[2]);
            night(rest, next == null ? s : next, next == null ? done : done + 1, all, ends);
        }
    }

    int night(int what) {
        List<int[]> busy = new ArrayList<>();
        for (int[] c : clerks) {
            if (c != null) {
                busy.add(c);
            }
        }
        List<Object[]> ends = new ArrayList<>();
        night(busy, state, 0, busy.size(), ends);
        int whole = 0;
        int most = 0;
        HashSet<Object> different = new HashSet<>();
        for (Object[] end : ends) {
            most = Math.max(most, (Integer) end[0]);
            if ((Integer) end[0] == busy.size()) {
                whole++;
                different.add(end[1]);
            }
        }
        return switch (what) {
            case 0 -> whole;
            case 1 -> different.size();
            case 2 -> most;
            case 3 -> ends.size();
            default -> -1;
        };
    }

    int carried(int w, int what) {
        if (!toldWindow(w) || ahead == null || what < 0 || what > 1) {
            return -1;
        }
        List<List<Integer>> more = values(windows[w], what == 0 ? state : ahead);
        for (List<Integer> row : values(windows[w], what == 0 ? ahead : state)) {
            more.remove(row);
        }
        return more.size();
    }

    int cuts(int wall, int set, int what) {
        if (!toldWall(wall) || set < 0 || set >= 1 << state.walls.get(wall).size() || what < 0 || what > 3) {
            return -1;
        }
        List<Integer> keys = new ArrayList<>(state.walls.get(wall).keySet());
        List<Integer> some = new ArrayList<>();
        for (int k = 0; k < keys.size(); k++) {
            if ((set >> k & 1) == 1) {
                some.add(keys.get(k));
            }
        }
        List<Pane> fitting = new ArrayList<>();
        for (Pane cut : allCuts(wall)) {
            Told t = new Told();
            t.wall = wall;
            t.panes.add(cut);
            List<Integer> left = new ArrayList<>();
            for (Line l : see(t, state)) {
                left.add(l.order);
            }
            if (left.equals(some)) {
                fitting.add(cut);
            }
        }
        if (what == 0) {
            return fitting.size();
        }
        if (fitting.isEmpty()) {
            return -1;
        }
        Pane first = fitting.get(0);
        return what == 1 ? first.n()[0] : what == 3 ? first.n()[1]
                : List.of("less", "is", "more").indexOf(first.word());
    }

    int moves(int w, int c, int a, int b) {
        if (!isColumn(w, c) || a < 0 || b > 19 || a > b) {
            return -1;
        }
        int rows = 0;
        for (int[] row : state.walls.get(w).values()) {
            if (row[c] < a || row[c] > b) {
                rows++;
            }
        }
        return rows;
    }

    boolean mark(int m, boolean back) {
        if (m < 0 || m > 3) {
            return false;
        }
        if (!back) {
            marks[m] = state.copy();
            return true;
        }
        if (marks[m] == null || !lawful(marks[m])) {
            return false;
        }
        state = marks[m].copy();
        return true;
    }

    int count(int what) {
        if (what >= 0 && what <= 2) {
            return toldWall(what) ? state.walls.get(what).size() : -1;
        }
        int sum = 0;
        for (TreeMap<Integer, int[]> wall : state.walls) {
            for (int[] row : wall.values()) {
                sum += Arrays.stream(row).sum();
            }
        }
        int told = 0;
        for (Told t : windows) {
            told += t != null ? 1 : 0;
        }
        return what == 3 ? told : what == 4 ? tape.length() : what == 5 ? sum : -1;
    }
}
