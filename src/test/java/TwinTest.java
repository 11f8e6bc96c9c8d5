import java.util.function.Function;

/**
 * Calls that must change nothing: those that are refused, and those that only ask. Two objects are made by
 * the same calls; the call is made on one of them alone, and then both must answer alike whatever is asked.
 */
public final class TwinTest {
    private static final Checks C = new Checks("TwinTest");
    private static final int MIN = Hand.MIN;
    private static final int MAX = Hand.MAX;

    public static void main(String[] args) {
        refusedOnWalls();
        refusedLaws();
        refusedWindows();
        refusedEdits();
        refusedOthers();
        asking();
        C.end();
    }

    /** Something of everything: laws of each kind, windows over windows, a put, clerks, marks, a draft. */
    private static ThroughWindow made() {
        ThroughWindow x = Hand.walls(Hand.columns(3, 2), Hand.row(1, 2, 7), Hand.row(1, 5, 9), Hand.row(1, 6, 9),
                Hand.row(0, 1, 4, 2), Hand.row(0, 3, 6, 5), Hand.row(0, 8, 4, 2));
        x.names(0, 2, 1);
        x.span(0, 1, 1, 12);
        x.span(1, 0, 1, 18);
        x.mark(1, false);
        Hand.tell(x, 0, "over wall 0; few 1 0; cut 0 less 9;");
        Hand.tell(x, 1, "over window 0; fill 2 5; cut 0 more 3;");
        Hand.tell(x, 3, "over wall 0; join 1 by 2; sum 1 by 3;");
        x.draft(0, 5);
        x.draft(1, 9);
        x.put(1, 2, 0, 0, 0);
        x.once(0, 0, true);
        x.clerk(0, 0, 0, 7);
        x.clerk(2, 1, 8, 5);
        return x;
    }

    /** What can be asked of an object, ending with calls that change it: some 400 calls. */
    private static String picture(ThroughWindow x) {
        StringBuilder b = new StringBuilder();
        for (int what = 0; what < 6; what++) {
            b.append(x.count(what)).append(' ');
        }
        for (int wall = 0; wall < 3; wall++) {
            b.append('[').append(Hand.held(x, wall)).append(']');
        }
        for (int window = 0; window < 6; window++) {
            b.append('\n').append(window).append(": ").append(Hand.shown(x, window));
            for (int what = 1; what < 5; what++) {
                b.append(' ').append(x.look(window, what));
            }
            b.append(" ways ").append(x.ways(window, 2, 0, 0, 0)).append(' ').append(x.ways(window, 0, 0, 0, 4));
            b.append(" carried ").append(x.carried(window, 0)).append(' ').append(x.carried(window, 1));
        }
        b.append("\nnight ");
        for (int what = 0; what < 4; what++) {
            b.append(x.night(what)).append(' ');
        }
        return b.append(changes(x)).toString();
    }

    /** What is not seen otherwise, laws and marks, comes to light by what they let pass. */
    private static String changes(ThroughWindow x) {
        StringBuilder b = new StringBuilder("\nputs ");
        b.append(x.put(0, 2, 0, 0, 0)).append(' ').append(x.put(1, 2, 0, 0, 0)).append("\nrows ");
        int[][] rows = {{0, 0, 4, 2, 0}, {0, 19, 4, 6, 0}, {0, 11, 0, 2, 0}, {0, 12, 13, 2, 0}, {0, 13, 12, 3, 0},
            {0, 14, 1, 5, 0}, {1, 0, 0, 0, 0}, {1, 19, 0, 0, 0}, {1, 3, 0, 0, 0}, {1, 4, 19, 0, 0}, {2, 1, 1, 1, 1}};
        for (int[] row : rows) {
            b.append(x.row(row[0], row[1], row[2], row[3], row[4]) ? '+' : '-');
        }
        for (int key = 0; key < 20; key += 3) {
            b.append(x.out(1, key + 2) ? '+' : '-');
        }
        for (int mark = 0; mark < 4; mark++) {
            b.append("\nmark ").append(x.mark(mark, true)).append(' ').append(x.count(5));
        }
        b.append("\nwindows");
        for (int window = 0; window < 6; window++) {
            b.append(' ').append(Hand.tell(x, window, "over wall 1;"));
        }
        return b.toString();
    }

    private static final String ASKED = picture(made());

    /** A call (or some) that must answer as due and leave the object as its twin. */
    private static void leaves(String name, Function<ThroughWindow, Object> call, Object due) {
        ThroughWindow x = made();
        C.due(name, String.valueOf(call.apply(x)), String.valueOf(due));
        C.due("behind " + name, picture(x), ASKED);
    }

    private static void refusedOnWalls() {
        C.part("2 to 4: false, and nothing else");
        leaves("wall told", x -> x.wall(0, 4), false);
        leaves("wall 3", x -> x.wall(3, 2), false);
        leaves("wall -1", x -> x.wall(-1, 2), false);
        leaves("no column", x -> x.wall(2, 0), false);
        leaves("five columns", x -> x.wall(2, 5), false);
        leaves("row of no wall", x -> x.row(2, 1, 1, 1, 1), false);
        leaves("row with key 20", x -> x.row(0, 20, 4, 2, 0), false);
        leaves("row with value -1", x -> x.row(0, 2, 4, -1, 0), false);
        leaves("row whose key is there", x -> x.row(0, 3, 4, 2, 0), false);
        leaves("row outside a span", x -> x.row(0, 2, 0, 2, 0), false);
        leaves("row that names none", x -> x.row(0, 2, 4, 3, 0), false);
        leaves("row whose key is outside", x -> x.row(1, 0, 4, 0, 0), false);
        leaves("out of no wall", x -> x.out(2, 1), false);
        leaves("out of no row", x -> x.out(0, 2), false);
        leaves("out of a named row", x -> x.out(1, 2), false);
        leaves("out of a named row", x -> x.out(1, 5), false);
        leaves("no value", x -> Hand.valueOf(x, 0, 2, 0), Hand.THROWN);
    }

    private static void refusedLaws() {
        C.part("5 to 7: false, and nothing else");
        leaves("a value is outside", x -> x.span(0, 1, 5, 12), false);
        leaves("a value is outside", x -> x.span(0, 1, 1, 5), false);
        leaves("a key is outside", x -> x.span(1, 0, 3, 19), false);
        leaves("from above to", x -> x.span(0, 1, 12, 1), false);
        leaves("from below 0", x -> x.span(0, 1, -1, 19), false);
        leaves("to above 19", x -> x.span(0, 1, 0, 20), false);
        leaves("no such column", x -> x.span(1, 2, 0, 19), false);
        leaves("its own wall", x -> x.names(0, 2, 0), false);
        leaves("no such wall", x -> x.names(0, 2, 2), false);
        leaves("no such wall", x -> x.names(0, 2, -2), false);
        leaves("the key", x -> x.names(0, 0, 1), false);
        leaves("not lawful", x -> x.names(0, 1, 1), false);
        leaves("not lawful", x -> x.names(1, 1, 0), false);
        leaves("4 is there twice", x -> x.once(0, 1, true), false);
        leaves("9 is there twice", x -> x.once(1, 1, true), false);
        leaves("the key", x -> x.once(0, 0, true), false);
        leaves("no such column", x -> x.once(1, 2, true), false);
    }

    private static void refusedWindows() {
        C.part("9: all stays");
        String[] faults = {"", "over", "over wall 2;", "over wall 0; fill 0 3; cut 9 is 1;", "over window 3;",
            "over window 2;", "over wall 1; few 1 0; sum 0 by 1; x"};
        int[] due = {1, 1 + 16 * 4, 2 + 16 * 10, 4 + 16 * 27, 4 + 16 * 12, 2 + 16 * 12, 1 + 16 * 34};
        for (int n = 0; n < faults.length; n++) {
            String text = faults[n];
            leaves(text, x -> Hand.tell(x, 3, text), due[n]);
        }
        leaves("a fault of one not told", x -> Hand.tell(x, 5, "over wall 0; few 3;"), 4 + 16 * 17);
        leaves("under another", x -> Hand.tell(x, 0, "over wall 1; fill 0 3;"), -1);
        leaves("window 6", x -> Hand.tell(x, 6, "over wall 1;"), -1);
        leaves("window -1", x -> Hand.tell(x, -1, "over wall 1;"), -1);
        leaves("signs that are left out", x -> x.feed(-1, 0, 0x7f), 0);
    }

    private static void refusedEdits() {
        C.part("14, 19, 24, 29: NONE or false, and nothing else");
        leaves("draft of column 8", x -> x.draft(8, 1), false);
        leaves("draft of 20", x -> x.draft(0, 20), false);
        leaves("draft of -1", x -> x.draft(1, -1), false);
        leaves("put: no such window", x -> x.put(2, 2, 0, 0, 0), -1);
        leaves("put: no such edit", x -> x.put(0, 3, 0, 0, 0), -1);
        leaves("put: no such row", x -> x.put(0, 1, 9, 0, 0), -1);
        leaves("put: no such column", x -> x.put(0, 0, 0, 2, 5), -1);
        leaves("put: no such value", x -> x.put(0, 0, 0, 0, 200), -1);
        leaves("put: a key", x -> x.put(0, 0, 0, 1, 2), -1);
        leaves("put: outside", x -> x.put(0, 0, 0, 0, 0), -1);
        leaves("put: above 19", x -> x.put(3, 0, 0, 1, 150), -1);
        leaves("clerk 3", x -> x.clerk(3, 0, 0, 0), false);
        leaves("no such window", x -> x.clerk(0, 2, 0, 0), false);
        leaves("place 80", x -> x.clerk(0, 0, 80, 0), false);
        leaves("value 200", x -> x.clerk(2, 0, 0, 200), false);
        leaves("mark 4", x -> x.mark(4, false), false);
        leaves("back from mark 4", x -> x.mark(4, true), false);
        leaves("back from mark 0", x -> x.mark(0, true), false);
    }

    private static void refusedOthers() {
        C.part("11 to 30: wild numbers");
        for (int wild : new int[] {MIN, -2, 99, MAX}) {
            leaves("wild " + wild, x -> {
                int sum = x.seen(wild, wild, wild) + x.source(wild, wild, wild, wild) + x.look(wild, wild)
                        + x.ways(wild, wild, wild, wild, wild) + x.way(wild, wild, wild, wild, wild, wild, wild)
                        + x.why(wild, wild, wild, wild, wild) + x.barred(wild, wild, wild, wild, wild, wild)
                        + x.put(wild, wild, wild, wild, wild) + x.twice(wild, wild, wild, wild, wild)
                        + x.back(wild, wild, wild, wild) + x.clash(wild, wild, wild, wild, wild, wild)
                        + x.fits(wild, wild) + x.night(wild) + x.carried(wild, wild) + x.cuts(wild, wild, wild)
                        + x.moves(wild, wild, wild, wild) + x.count(wild) + x.window(wild);
                return sum;
            }, -18);
            leaves("wild " + wild, x -> x.wall(wild, wild) || x.row(wild, wild, wild, wild, wild) || x.out(wild, wild)
                    || x.span(wild, wild, wild, wild) || x.names(wild, wild, wild) || x.once(wild, wild, true)
                    || x.draft(wild, wild) || x.clerk(wild, wild, wild, wild) || x.mark(wild, false)
                    || x.mark(wild, true), false);
        }
    }

    private static void asking() {
        C.part("10 to 30: calls that only ask");
        leaves("value", x -> x.value(0, 3, 1), 6);
        leaves("seen", x -> x.seen(1, 1, 0), 4);
        leaves("source", x -> x.source(1, 1, 0, 1), 8);
        leaves("look", x -> x.look(3, 0), 2);
        leaves("ways of a change", x -> x.ways(1, 0, 0, 0, 8), 1);
        leaves("ways of a drop", x -> x.ways(1, 1, 0, 0, 0), 7 + 1);
        leaves("ways of an add", x -> x.ways(1, 2, 0, 0, 0), 0);
        leaves("way", x -> x.way(1, 0, 0, 0, 8, 0, 3), 1);
        leaves("why of a change", x -> x.why(1, 0, 0, 0, 3), 2);
        leaves("why of a drop", x -> x.why(1, 1, 0, 0, 0), 0);
        leaves("why of an add", x -> x.why(3, 2, 0, 0, 0), 3);
        leaves("barred", x -> x.barred(1, 0, 0, 0, 0, 2), 1);
        leaves("twice", x -> x.twice(0, 3, 0, 7, 8), 1);
        leaves("back", x -> x.back(0, 3, 0, 7), 1);
        leaves("clash", x -> x.clash(0, 0, 7, 1, 24, 8), 1);
        leaves("fits", x -> x.fits(0, 1), 0);
        leaves("night", x -> x.night(0), 2);
        leaves("carried", x -> x.carried(1, 0), 1);
        leaves("cuts", x -> x.cuts(0, 1, 0), 3);
        leaves("moves", x -> x.moves(0, 1, 19, 19), 4);
        leaves("count", x -> x.count(5), 92);
    }
}
