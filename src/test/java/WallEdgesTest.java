/**
 * Walls, rows, laws and marks (promises 1 to 7, 10, 28 to 30): each sentence of the document that names
 * a boundary has a test of its own, which begins with that sentence.
 */
public final class WallEdgesTest {
    private static final Checks C = new Checks("WallEdgesTest");
    private static final int MIN = Hand.MIN;
    private static final int MAX = Hand.MAX;
    private static final int[] NO_WALLS = {-1, 3, 4, MIN, MAX};

    public static void main(String[] args) {
        newObject();
        wallNumbers();
        wallColumns();
        wallToldOnce();
        rowValues();
        rowValuesNotAsked();
        rowOfNoWall();
        rowOfAKeyThatIsThere();
        rowsTenAtMost();
        rowNotLawfulBySpan();
        rowNotLawfulByNames();
        rowNotLawfulByOnce();
        outNoneSuch();
        outNotLawful();
        outOfTheLastRow();
        lawsOfOthers();
        spanAtFirst();
        spanEnds();
        spanValueOutside();
        spanOfTheKey();
        namesAndNone();
        namesNotLawful();
        namesEachOther();
        onceNotLawful();
        valueNoneSuch();
        movesEdges();
        movesOnlyAsks();
        markNumbers();
        markHoldsNothing();
        markIsACopy();
        markNotLawful();
        markHoldsRowsAlone();
        countEdges();
        wallsSideBySide();
        C.end();
    }

    private static void newObject() {
        C.part("1: No WALL, no WINDOW");
        ThroughWindow x = new ThroughWindow();
        for (int wall = 0; wall < 3; wall++) {
            C.due("count", x.count(wall), -1);
            C.no("row", x.row(wall, 0, 0, 0, 0));
            C.no("out", x.out(wall, 0));
            C.no("span", x.span(wall, 0, 0, 19));
            C.no("names", x.names(wall, 1, -1));
            C.no("once", x.once(wall, 1, false));
            C.due("value", Hand.valueOf(x, wall, 0, 0), Hand.THROWN);
            C.due("cuts", x.cuts(wall, 0, 0), -1);
            C.due("moves", x.moves(wall, 0, 0, 19), -1);
        }
        for (int window = 0; window < 6; window++) {
            C.due("look", x.look(window, 1), -1);
            C.no("clerk", x.clerk(0, window, 0, 0));
            C.due("put", x.put(window, 2, 0, 0, 0), -1);
        }
        C.due("windows", x.count(3), 0);
        C.due("signs", x.count(4), 0);
        C.due("values", x.count(5), 0);
    }

    private static void wallNumbers() {
        C.part("2: WALLS 0 to 2");
        ThroughWindow x = new ThroughWindow();
        for (int wall : NO_WALLS) {
            C.no("wall " + wall, x.wall(wall, 1));
        }
        for (int wall = 0; wall < 3; wall++) {
            C.due("not told", x.count(wall), -1);
            C.yes("wall " + wall, x.wall(wall, 1));
            C.due("told", x.count(wall), 0);
        }
    }

    private static void wallColumns() {
        C.part("2: 1 to 4 COLUMNS");
        ThroughWindow x = new ThroughWindow();
        for (int columns : new int[] {0, -1, 5, 6, MIN, MAX}) {
            C.no(columns + " columns", x.wall(1, columns));
            C.due("not told", x.count(1), -1);
        }
        for (int columns = 1; columns < 5; columns++) {
            ThroughWindow y = new ThroughWindow();
            C.yes(columns + " columns", y.wall(1, columns));
            C.yes("row", y.row(1, 6, 7, 8, 9));
            C.due("the last column", Hand.valueOf(y, 1, 6, columns - 1), 5 + columns);
            C.due("none behind it", Hand.valueOf(y, 1, 6, columns), Hand.THROWN);
        }
    }

    private static void wallToldOnce() {
        C.part("2: a WALL, once; false: it is told");
        ThroughWindow x = Hand.walls(Hand.columns(2), Hand.row(0, 4, 5));
        for (int columns = 1; columns < 5; columns++) {
            C.no(columns + " columns", x.wall(0, columns));
        }
        C.due("its rows stay", Hand.held(x, 0), "4 5");
    }

    private static void rowValues() {
        C.part("3: VALUES are 0 to 19");
        for (int column = 0; column < 4; column++) {
            ThroughWindow x = Hand.walls(Hand.columns(4));
            for (int value : new int[] {-1, 20, MIN, MAX}) {
                int[] row = {7, 7, 7, 7};
                row[column] = value;
                C.no(value + " in column " + column, x.row(0, row[0], row[1], row[2], row[3]));
            }
            C.due("no row came", x.count(0), 0);
            for (int value : new int[] {0, 19}) {
                int[] row = {value + 1 - value / 19 * 2, 7, 7, 7};
                row[column] = value;
                C.yes(value + " in column " + column, x.row(0, row[0], row[1], row[2], row[3]));
                C.due("it is there", Hand.valueOf(x, 0, row[0], column), value);
            }
        }
    }

    private static void rowValuesNotAsked() {
        C.part("3: VALUES of COLUMNS that there are not are not asked");
        for (int columns = 1; columns < 4; columns++) {
            ThroughWindow x = Hand.walls(Hand.columns(columns));
            int beyond = columns < 3 ? MIN : 3;
            C.yes("wild ones", x.row(0, 1, columns < 2 ? 20 : 2, beyond, MAX));
            C.yes("wild ones", x.row(0, 2, columns < 2 ? -1 : 2, columns < 3 ? MAX : 3, MIN));
            C.due("they are not kept", x.count(5), 3 + (columns > 1 ? 4 : 0) + (columns > 2 ? 6 : 0));
        }
    }

    private static void rowOfNoWall() {
        C.part("3: false: no such WALL");
        ThroughWindow x = Hand.walls(Hand.columns(1, 0, 1));
        for (int wall : NO_WALLS) {
            C.no("wall " + wall, x.row(wall, 0, 0, 0, 0));
        }
        C.no("a wall that is not told", x.row(1, 0, 0, 0, 0));
        C.yes("the first", x.row(0, 0, 0, 0, 0));
        C.yes("the last", x.row(2, 0, 0, 0, 0));
    }

    private static void rowOfAKeyThatIsThere() {
        C.part("3: false: its KEY is there");
        ThroughWindow x = Hand.walls(Hand.columns(2, 2), Hand.row(0, 0, 5), Hand.row(0, 19, 6));
        C.no("the least key, other values", x.row(0, 0, 6, 0, 0));
        C.no("the same row", x.row(0, 19, 6, 0, 0));
        C.due("they stay", Hand.held(x, 0), "0 5, 19 6");
        C.yes("the same key on another wall", x.row(1, 0, 6, 0, 0));
        C.yes("out", x.out(0, 0));
        C.yes("the key is free again", x.row(0, 0, 6, 0, 0));
    }

    private static void rowsTenAtMost() {
        C.part("3: ROWS, 10 at most in each; false: 10 are");
        ThroughWindow x = Hand.walls(Hand.columns(1, 1));
        for (int n = 0; n < 10; n++) {
            C.yes("row " + (n + 1), x.row(0, 19 - 2 * n, 0, 0, 0));
        }
        C.no("an eleventh", x.row(0, 0, 0, 0, 0));
        C.due("ten", x.count(0), 10);
        C.yes("another wall has its own ten", x.row(1, 0, 0, 0, 0));
        C.yes("one goes", x.out(0, 19));
        C.yes("a tenth", x.row(0, 0, 0, 0, 0));
        C.no("an eleventh", x.row(0, 19, 0, 0, 0));
    }

    private static void rowNotLawfulBySpan() {
        C.part("3: false: not LAWFUL then (SPAN)");
        ThroughWindow x = Hand.walls(Hand.columns(2));
        C.yes("span", x.span(0, 1, 3, 6));
        C.yes("span of the key", x.span(0, 0, 1, 4));
        C.no("below", x.row(0, 1, 2, 0, 0));
        C.no("above", x.row(0, 1, 7, 0, 0));
        C.no("key below", x.row(0, 0, 3, 0, 0));
        C.no("key above", x.row(0, 5, 3, 0, 0));
        C.due("none came", Hand.held(x, 0), "");
        C.yes("the least ones", x.row(0, 1, 3, 0, 0));
        C.yes("the greatest ones", x.row(0, 4, 6, 0, 0));
    }

    private static void rowNotLawfulByNames() {
        C.part("3: false: not LAWFUL then (NAMES)");
        ThroughWindow x = Hand.walls(Hand.columns(2, 1), Hand.row(1, 0), Hand.row(1, 19));
        C.yes("names", x.names(0, 1, 1));
        C.no("no such key there", x.row(0, 5, 1, 0, 0));
        C.no("no such key there", x.row(0, 5, 18, 0, 0));
        C.due("none came", x.count(0), 0);
        C.yes("the first key", x.row(0, 5, 0, 0, 0));
        C.yes("the last key", x.row(0, 6, 19, 0, 0));
        C.yes("two rows may name one", x.row(0, 7, 19, 0, 0));
    }

    private static void rowNotLawfulByOnce() {
        C.part("3: false: not LAWFUL then (ONCE)");
        ThroughWindow x = Hand.walls(Hand.columns(3), Hand.row(0, 1, 0, 19));
        C.yes("once", x.once(0, 1, true));
        C.yes("once", x.once(0, 2, true));
        C.no("0 again", x.row(0, 2, 0, 0, 0));
        C.no("19 again", x.row(0, 2, 1, 19, 0));
        C.due("none came", x.count(0), 1);
        C.yes("each in the other column, and the key's value", x.row(0, 2, 19, 0, 0));
        C.yes("others", x.row(0, 3, 1, 1, 0));
    }

    private static void outNoneSuch() {
        C.part("4: false: none such");
        ThroughWindow x = Hand.walls(Hand.columns(1, 0, 1), Hand.row(0, 0), Hand.row(2, 19));
        for (int wall : NO_WALLS) {
            C.no("wall " + wall, x.out(wall, 0));
        }
        C.no("a wall that is not told", x.out(1, 0));
        for (int key : new int[] {-1, 1, 19, 20, MIN, MAX}) {
            C.no("key " + key, x.out(0, key));
        }
        C.no("a key of another wall", x.out(2, 0));
        C.due("nothing went", x.count(0) + 10 * x.count(2), 11);
        C.yes("the least key", x.out(0, 0));
        C.yes("the greatest key", x.out(2, 19));
        C.no("gone already", x.out(2, 19));
    }

    private static void outNotLawful() {
        C.part("4: false: not LAWFUL then");
        ThroughWindow x = Hand.walls(Hand.columns(2, 2), Hand.row(1, 3, 8), Hand.row(0, 1, 3), Hand.row(0, 2, 3));
        C.yes("names", x.names(0, 1, 1));
        C.no("two name it", x.out(1, 3));
        C.due("it stays whole", Hand.held(x, 1), "3 8");
        C.yes("one goes", x.out(0, 1));
        C.no("one names it", x.out(1, 3));
        C.yes("the other goes", x.out(0, 2));
        C.yes("none names it", x.out(1, 3));
        ThroughWindow y = Hand.walls(Hand.columns(2, 1), Hand.row(1, 3), Hand.row(0, 1, 3));
        y.names(0, 1, 1);
        y.names(0, 1, -1);
        C.yes("a law that is no more", y.out(1, 3));
    }

    private static void outOfTheLastRow() {
        C.part("4: the last ROW goes");
        ThroughWindow x = Hand.walls(Hand.columns(3), Hand.row(0, 9, 8, 7));
        C.yes("out", x.out(0, 9));
        C.due("told still, empty", x.count(0), 0);
        C.due("no values", x.count(5), 0);
        C.due("value", Hand.valueOf(x, 0, 9, 0), Hand.THROWN);
    }

    /** Wrong walls and columns are refused by every law alike. */
    private static void lawsOfOthers() {
        C.part("5, 6, 7: false: others");
        ThroughWindow x = Hand.walls(Hand.columns(2, 0, 4));
        for (int wall : new int[] {-1, 1, 3, MIN, MAX}) {
            C.no("span, wall " + wall, x.span(wall, 1, 0, 19));
            C.no("names, wall " + wall, x.names(wall, 1, 2));
            C.no("names none, wall " + wall, x.names(wall, 1, -1));
            C.no("once, wall " + wall, x.once(wall, 1, true));
            C.no("not once, wall " + wall, x.once(wall, 1, false));
        }
        for (int column : new int[] {-1, 2, 3, 4, MIN, MAX}) {
            C.no("span, column " + column, x.span(0, column, 0, 19));
            C.no("names, column " + column, x.names(0, column, 2));
            C.no("names none, column " + column, x.names(0, column, -1));
            C.no("once, column " + column, x.once(0, column, true));
            C.no("not once, column " + column, x.once(0, column, false));
        }
        C.yes("the last column: span", x.span(2, 3, 0, 19));
        C.yes("the last column: names", x.names(2, 3, 0));
        C.yes("the last column: once", x.once(2, 3, true));
        C.no("the key names none", x.names(0, 0, 2));
        C.no("the key is once anyhow", x.once(0, 0, true));
        C.no("the key can't be other", x.once(0, 0, false));
    }

    private static void spanAtFirst() {
        C.part("5: the SPAN .. 0 to 19 at first");
        ThroughWindow x = Hand.walls(Hand.columns(4));
        C.yes("all 0", x.row(0, 0, 0, 0, 0));
        C.yes("all 19", x.row(0, 19, 19, 19, 19));
        C.yes("told as it is", x.span(0, 3, 0, 19));
    }

    private static void spanEnds() {
        C.part("5: false: others (from .. to)");
        ThroughWindow x = Hand.walls(Hand.columns(2));
        int[][] wrong = {{-1, 19}, {0, 20}, {-1, 20}, {1, 0}, {19, 18}, {20, 20}, {-1, -1}, {MIN, MAX}, {MAX, MIN},
            {0, MAX}, {MIN, 19}};
        for (int[] ends : wrong) {
            C.no("span " + ends[0] + " .. " + ends[1], x.span(0, 1, ends[0], ends[1]));
            C.due("moves " + ends[0] + " .. " + ends[1], x.moves(0, 1, ends[0], ends[1]), -1);
        }
        C.yes("just the least", x.span(0, 1, 0, 0));
        C.no("1 is outside", x.row(0, 0, 1, 0, 0));
        C.yes("0 is inside", x.row(0, 0, 0, 0, 0));
        C.yes("out", x.out(0, 0));
        C.yes("just the greatest", x.span(0, 1, 19, 19));
        C.no("18 is outside", x.row(0, 0, 18, 0, 0));
        C.yes("19 is inside", x.row(0, 0, 19, 0, 0));
    }

    private static void spanValueOutside() {
        C.part("5: false: a VALUE is outside");
        ThroughWindow x = Hand.walls(Hand.columns(3), Hand.row(0, 5, 5, 9), Hand.row(0, 6, 9, 9));
        C.no("the least is", x.span(0, 1, 6, 9));
        C.no("the greatest is", x.span(0, 1, 5, 8));
        C.no("both are", x.span(0, 1, 6, 8));
        C.yes("it is as it was", x.row(0, 7, 0, 9, 0));
        C.yes("it is as it was", x.row(0, 8, 19, 9, 0));
        x.out(0, 7);
        x.out(0, 8);
        C.yes("none is", x.span(0, 1, 5, 9));
        C.yes("one value", x.span(0, 2, 9, 9));
        C.no("narrower", x.span(0, 1, 5, 5));
        C.yes("wider again", x.span(0, 1, 4, 10));
        C.yes("10 is inside now", x.row(0, 7, 10, 9, 0));
        C.no("11 is not", x.row(0, 8, 11, 9, 0));
    }

    private static void spanOfTheKey() {
        C.part("5: of the KEY, too");
        ThroughWindow x = Hand.walls(Hand.columns(1), Hand.row(0, 3), Hand.row(0, 7));
        C.no("3 is outside", x.span(0, 0, 4, 19));
        C.no("7 is outside", x.span(0, 0, 0, 6));
        C.yes("both are inside", x.span(0, 0, 3, 7));
        C.no("key 2", x.row(0, 2, 0, 0, 0));
        C.no("key 8", x.row(0, 8, 0, 0, 0));
        C.yes("key 4", x.row(0, 4, 0, 0, 0));
    }

    private static void namesAndNone() {
        C.part("6: another WALL (NONE: none); false: others");
        ThroughWindow x = Hand.walls(Hand.columns(3, 1, 0), Hand.row(1, 4), Hand.row(0, 1, 4, 4));
        C.no("its own wall", x.names(0, 1, 0));
        C.no("a wall that is not told", x.names(0, 1, 2));
        for (int other : new int[] {-2, 3, 4, MIN, MAX}) {
            C.no("wall " + other, x.names(0, 1, other));
        }
        C.yes("none, as it is", x.names(0, 1, -1));
        C.yes("a wall", x.names(0, 1, 1));
        C.yes("the same again", x.names(0, 1, 1));
        C.yes("another column, too", x.names(0, 2, 1));
        C.no("the row is named", x.out(1, 4));
        C.yes("none", x.names(0, 1, -1));
        C.no("the other column names it", x.out(1, 4));
        C.yes("none", x.names(0, 2, -1));
        C.yes("it is free", x.out(1, 4));
    }

    private static void namesNotLawful() {
        C.part("6: false: not LAWFUL then (it is as it was)");
        ThroughWindow x = Hand.walls(Hand.columns(2, 1, 1), Hand.row(1, 4), Hand.row(1, 5), Hand.row(2, 5),
                Hand.row(0, 1, 4));
        C.no("wall 2 has no 4", x.names(0, 1, 2));
        C.yes("it names none still", x.row(0, 2, 9, 0, 0));
        C.no("wall 1 has no 9", x.names(0, 1, 1));
        x.out(0, 2);
        C.yes("wall 1 has 4", x.names(0, 1, 1));
        C.no("wall 2 has no 4", x.names(0, 1, 2));
        C.no("wall 1 is named still", x.out(1, 4));
        C.yes("row", x.row(0, 2, 5, 0, 0));
        C.yes("out", x.out(0, 1));
        C.yes("wall 2 has 5", x.names(0, 1, 2));
        C.yes("wall 1 is named no more", x.out(1, 5));
        C.no("wall 2 is", x.out(2, 5));
        ThroughWindow y = Hand.walls(Hand.columns(2, 1));
        C.yes("no rows name no rows", y.names(0, 1, 1));
        C.no("a row that names one of none", y.row(0, 0, 0, 0, 0));
    }

    private static void namesEachOther() {
        C.part("6: two WALLS that NAME one another");
        ThroughWindow x = Hand.walls(Hand.columns(2, 2), Hand.row(0, 1, 1), Hand.row(1, 1, 1));
        C.yes("names", x.names(0, 1, 1));
        C.yes("names", x.names(1, 1, 0));
        C.no("neither can go first", x.out(0, 1));
        C.no("neither can go first", x.out(1, 1));
        C.no("neither can come first", x.row(0, 2, 2, 0, 0));
        C.yes("one that names what is there", x.row(0, 2, 1, 0, 0));
        C.yes("and one that names that", x.row(1, 2, 2, 0, 0));
    }

    private static void onceNotLawful() {
        C.part("7: false: not LAWFUL then (it is as it was)");
        ThroughWindow x = Hand.walls(Hand.columns(2), Hand.row(0, 0, 7), Hand.row(0, 19, 7));
        C.no("7 is there twice", x.once(0, 1, true));
        C.yes("it is not once still", x.row(0, 1, 7, 0, 0));
        C.yes("not once, as it is", x.once(0, 1, false));
        x.out(0, 1);
        x.out(0, 0);
        C.yes("7 is there once", x.once(0, 1, true));
        C.yes("once, as it is", x.once(0, 1, true));
        C.no("7 again", x.row(0, 1, 7, 0, 0));
        C.yes("not once", x.once(0, 1, false));
        C.yes("7 again", x.row(0, 1, 7, 0, 0));
        C.yes("no rows", Hand.walls(Hand.columns(4)).once(0, 3, true));
    }

    private static void valueNoneSuch() {
        C.part("10: NoSuchElementException: none such");
        ThroughWindow x = Hand.walls(Hand.columns(2, 0, 4), Hand.row(0, 0, 19), Hand.row(2, 19, 1, 2, 0));
        for (int wall : new int[] {-1, 1, 3, MIN, MAX}) {
            C.due("wall " + wall, Hand.valueOf(x, wall, 0, 0), Hand.THROWN);
        }
        for (int key : new int[] {-1, 1, 19, 20, MIN, MAX}) {
            C.due("key " + key, Hand.valueOf(x, 0, key, 0), Hand.THROWN);
        }
        for (int column : new int[] {-1, 2, 3, 4, MIN, MAX}) {
            C.due("column " + column, Hand.valueOf(x, 0, 0, column), Hand.THROWN);
        }
        C.due("the least key", Hand.valueOf(x, 0, 0, 0), 0);
        C.due("the greatest value", Hand.valueOf(x, 0, 0, 1), 19);
        C.due("the greatest key", Hand.valueOf(x, 2, 19, 0), 19);
        C.due("the last column", Hand.valueOf(x, 2, 19, 3), 0);
    }

    private static void movesEdges() {
        C.part("28: how many ROWS have a VALUE outside; NONE: no such COLUMN, SPAN");
        ThroughWindow x = Hand.walls(Hand.columns(2, 1), Hand.row(0, 3, 0), Hand.row(0, 4, 19), Hand.row(0, 5, 10));
        C.due("all are inside", x.moves(0, 1, 0, 19), 0);
        C.due("the least is outside", x.moves(0, 1, 1, 19), 1);
        C.due("the greatest is outside", x.moves(0, 1, 0, 18), 1);
        C.due("all are outside", x.moves(0, 1, 11, 18), 3);
        C.due("one is inside", x.moves(0, 1, 10, 10), 2);
        C.due("the key, too", x.moves(0, 0, 4, 4), 2);
        C.due("no rows", x.moves(1, 0, 5, 5), 0);
        for (int wall : new int[] {-1, 2, 3, MIN, MAX}) {
            C.due("wall " + wall, x.moves(wall, 0, 0, 19), -1);
        }
        for (int column : new int[] {-1, 2, MIN, MAX}) {
            C.due("column " + column, x.moves(0, column, 0, 19), -1);
        }
        C.due("a column that this wall has not", x.moves(1, 1, 0, 19), -1);
    }

    private static void movesOnlyAsks() {
        C.part("28: it only asks");
        ThroughWindow x = Hand.walls(Hand.columns(2), Hand.row(0, 3, 5));
        C.due("none is outside", x.moves(0, 1, 5, 5), 0);
        C.yes("the span is not that one", x.row(0, 4, 19, 0, 0));
        C.yes("span", x.span(0, 1, 5, 19));
        C.due("not of the span that is", x.moves(0, 1, 0, 4), 2);
        C.due("rows stay", Hand.held(x, 0), "3 5, 4 19");
    }

    private static void markNumbers() {
        C.part("29: MARKS 0 to 3; false: none such");
        ThroughWindow x = Hand.walls(Hand.columns(1), Hand.row(0, 1));
        for (int mark : new int[] {-1, 4, 5, MIN, MAX}) {
            C.no("mark " + mark, x.mark(mark, false));
            C.no("back from " + mark, x.mark(mark, true));
        }
        for (int mark = 0; mark < 4; mark++) {
            C.yes("mark " + mark, x.mark(mark, false));
            C.yes("row", x.row(0, 2 + mark, 0, 0, 0));
        }
        for (int mark = 3; mark >= 0; mark--) {
            C.yes("back from " + mark, x.mark(mark, true));
            C.due("its rows", x.count(0), 1 + mark);
        }
    }

    private static void markHoldsNothing() {
        C.part("29: none at first; false: nothing is on it");
        ThroughWindow x = new ThroughWindow();
        for (int mark = 0; mark < 4; mark++) {
            C.no("back from " + mark, x.mark(mark, true));
        }
        C.yes("no walls, no rows: a mark for all that", x.mark(2, false));
        C.yes("back", x.mark(2, true));
        C.no("the others hold nothing", x.mark(1, true));
        x.wall(0, 1);
        x.row(0, 5, 0, 0, 0);
        C.no("nothing is on it", x.mark(3, true));
        C.due("the row stays", Hand.held(x, 0), "5");
        C.yes("no rows are on it", x.mark(2, true));
        C.due("the row is gone", x.count(0), 0);
    }

    private static void markIsACopy() {
        C.part("29: The ROWS are copied to a MARK");
        ThroughWindow x = Hand.walls(Hand.columns(2), Hand.row(0, 1, 5));
        C.yes("mark", x.mark(0, false));
        x.row(0, 2, 6, 0, 0);
        x.out(0, 1);
        C.yes("back", x.mark(0, true));
        C.due("as it was", Hand.held(x, 0), "1 5");
        x.out(0, 1);
        C.yes("back once more", x.mark(0, true));
        C.due("as it was", Hand.held(x, 0), "1 5");
        x.row(0, 3, 7, 0, 0);
        C.yes("marked anew", x.mark(0, false));
        x.out(0, 1);
        C.yes("back", x.mark(0, true));
        C.due("the later one", Hand.held(x, 0), "1 5, 3 7");
    }

    private static void markNotLawful() {
        C.part("29: false: not LAWFUL");
        ThroughWindow x = Hand.walls(Hand.columns(2, 1), Hand.row(0, 1, 5), Hand.row(0, 2, 5), Hand.row(1, 5));
        C.yes("mark", x.mark(0, false));
        x.out(0, 2);
        C.yes("once", x.once(0, 1, true));
        C.no("5 is there twice", x.mark(0, true));
        C.due("rows stay", Hand.held(x, 0), "1 5");
        x.once(0, 1, false);
        C.yes("span", x.span(0, 0, 0, 1));
        C.no("key 2 is outside", x.mark(0, true));
        x.span(0, 0, 0, 2);
        C.yes("back", x.mark(0, true));
        x.out(0, 1);
        x.out(0, 2);
        C.yes("mark without namers", x.mark(1, false));
        x.out(1, 5);
        x.row(1, 6, 0, 0, 0);
        C.yes("names", x.names(0, 1, 1));
        C.yes("lawful: both walls are taken back", x.mark(0, true));
        C.due("wall 1 as marked", Hand.held(x, 1), "5");
        C.yes("back", x.mark(1, true));
        x.out(1, 5);
        C.yes("mark of nothing", x.mark(2, false));
        x.names(0, 1, -1);
        x.row(0, 1, 5, 0, 0);
        C.yes("mark of a row that names nothing", x.mark(3, false));
        x.out(0, 1);
        x.names(0, 1, 1);
        C.no("it would name nothing", x.mark(3, true));
        C.due("rows stay", x.count(0), 0);
    }

    private static void markHoldsRowsAlone() {
        C.part("29: the ROWS of all WALLS (not LAWS, WINDOWS)");
        ThroughWindow x = Hand.walls(Hand.columns(2, 1), Hand.row(0, 1, 5), Hand.row(1, 7));
        C.yes("mark", x.mark(0, false));
        x.span(0, 1, 5, 6);
        x.once(0, 1, true);
        C.due("window", Hand.tell(x, 0, "over wall 0; few 1;"), 0);
        Hand.feed(x, "over");
        x.draft(0, 6);
        x.out(1, 7);
        x.wall(2, 1);
        x.row(2, 3, 0, 0, 0);
        C.yes("back", x.mark(0, true));
        C.due("wall 1", Hand.held(x, 1), "7");
        C.due("a wall that was told later is empty", x.count(2), 0);
        C.no("its span stays", x.row(0, 2, 7, 0, 0));
        C.no("once stays", x.row(0, 2, 5, 0, 0));
        C.due("the window stays", Hand.shown(x, 0), "5");
        C.due("the tape stays", x.count(4), 4);
        C.due("the draft stays", x.put(0, 2, 0, 0, 0), 2);
        C.due("as drafted", Hand.held(x, 0), "0 6, 1 5");
    }

    /** The least and the greatest key of each wall: none is another wall's. */
    private static void wallsSideBySide() {
        C.part("3, 4, 10, 28, 30: the WALLS side by side");
        ThroughWindow x = Hand.walls(Hand.columns(2, 2, 2), Hand.row(0, 19, 1), Hand.row(1, 0, 2), Hand.row(1, 19, 3),
                Hand.row(2, 0, 4));
        int[][] rows = {{19}, {0, 19}, {0}};
        for (int wall = 0; wall < 3; wall++) {
            for (int key : new int[] {-1, 20, 39, 40}) {
                C.no("row " + key, x.row(wall, key, 5, 0, 0));
                C.no("out " + key, x.out(wall, key));
                C.due("value " + key, Hand.valueOf(x, wall, key, 0), Hand.THROWN);
            }
            C.due("rows", x.count(wall), rows[wall].length);
            C.due("all move", x.moves(wall, 1, 9, 9), rows[wall].length);
        }
        C.due("all values", x.count(5), 20 + 2 + 22 + 4);
        C.no("1 is no key of wall 1", x.names(0, 1, 1));
        C.no("2 and 3 are no keys of wall 2", x.names(1, 1, 2));
        C.due("wall 0", Hand.held(x, 0), "19 1");
        C.due("wall 1", Hand.held(x, 1), "0 2, 19 3");
        C.due("wall 2", Hand.held(x, 2), "0 4");
    }

    private static void countEdges() {
        C.part("30: (NONE: not told); NONE for another what");
        ThroughWindow x = Hand.walls(Hand.columns(0, 2, 0));
        C.due("wall 0", x.count(0), -1);
        C.due("wall 1", x.count(1), 0);
        C.due("wall 2", x.count(2), -1);
        C.due("windows", x.count(3), 0);
        C.due("signs", x.count(4), 0);
        C.due("values", x.count(5), 0);
        for (int what : new int[] {-1, 6, 7, MIN, MAX}) {
            C.due("what " + what, x.count(what), -1);
        }
        for (int key = 10; key < 20; key++) {
            x.row(1, key, 19, 0, 0);
        }
        C.due("keys and values", x.count(5), 145 + 190);
        for (int window = 0; window < 6; window++) {
            C.due("window", Hand.tell(x, window, "over wall 1;"), 0);
            C.due("windows", x.count(3), window + 1);
        }
        C.due("told anew", Hand.tell(x, 5, "over wall 1;"), 0);
        C.due("windows", x.count(3), 6);
    }
}
