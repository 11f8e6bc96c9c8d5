/**
 * Edits, their ways, why there is none, and puts (promises 15 to 19): each sentence of the document that
 * names a boundary has a test of its own, which begins with that sentence.
 */
public final class EditEdgesTest {
    private static final Checks C = new Checks("EditEdgesTest");
    private static final int MIN = Hand.MIN;
    private static final int MAX = Hand.MAX;
    private static final String NONE_SUCH = "-1 -1 -1 -1 -1 -1";
    private static final String NOTHING = "0 0 -1 -1 -1 -1";

    public static void main(String[] args) {
        noSuchEdit();
        asFarAsItAsks();
        noRowIsSeen();
        valuesUpTo199();
        wantedInOrder();
        anotherValueByWalls();
        anotherValueByKeysColumnsValues();
        anotherValueNeverOfAKey();
        wallsUnderTheWindow();
        aRowGoes();
        aRowComes();
        aRowComesAsDraftedOrFilled();
        aRowOfTheBasesOwn();
        aRowCanNotCome();
        waysAreLawful();
        nothingIsTheFirst();
        leastIsTheFirstOfTheLeastPrice();
        wayNoneSuch();
        straightOfAKey();
        straightWithoutASource();
        straightAboveNineteen();
        straightDropBehindASum();
        straightAddThatCanNot();
        whyNotLawful();
        whyNotAsMany();
        whyNotThose();
        barredByEachLaw();
        barredByTheFirst();
        barredNone();
        putOfEachKind();
        putThatCanNot();
        C.end();
    }

    /** Rows 1 5, 2 5, 3 9 of wall 0; window 0 shows 5, 5, 9. */
    private static ThroughWindow fives() {
        ThroughWindow x = Hand.walls(Hand.columns(2), Hand.row(0, 1, 5), Hand.row(0, 2, 5), Hand.row(0, 3, 9));
        tell(x, 0, "over wall 0; few 1;");
        return x;
    }

    private static void tell(ThroughWindow x, int window, String text) {
        C.due("window(" + window + ") of " + text, Hand.tell(x, window, text), 0);
    }

    /** The ways of an edit are these and no others; LEAST is the one named by its place (-1: none). */
    private static void ways(ThroughWindow x, int[] edit, int least, String... due) {
        C.due("how many ways", x.ways(edit[0], edit[1], edit[2], edit[3], edit[4]), due.length);
        for (int n = 0; n < due.length; n++) {
            C.due("way " + n, Hand.wayOf(x, edit, n), due[n]);
        }
        C.due("no way behind them", Hand.wayOf(x, edit, due.length), NONE_SUCH);
        C.due("least", Hand.wayOf(x, edit, -1), least < 0 ? NONE_SUCH : due[least]);
    }

    private static void noSuchEdit() {
        C.part("15 to 19: NONE: no such WINDOW told, EDIT, ROW, COLUMN, VALUE");
        ThroughWindow x = fives();
        tell(x, 2, "over wall 0;");
        int[][] edits = {
            {-1, 0, 0, 0, 5}, {1, 0, 0, 0, 5}, {3, 0, 0, 0, 5}, {6, 0, 0, 0, 5}, {MIN, 0, 0, 0, 5}, {MAX, 0, 0, 0, 5},
            {1, 1, 0, 0, 0}, {6, 1, 0, 0, 0}, {-1, 2, 0, 0, 0}, {5, 2, 0, 0, 0}, {6, 2, 0, 0, 0},
            {0, -1, 0, 0, 5}, {0, 3, 0, 0, 5}, {0, MIN, 0, 0, 5}, {0, MAX, 0, 0, 5},
            {0, 0, -1, 0, 5}, {0, 0, 3, 0, 5}, {0, 0, MIN, 0, 5}, {0, 0, MAX, 0, 5},
            {0, 1, -1, 0, 0}, {0, 1, 3, 0, 0}, {0, 1, MIN, 0, 0}, {0, 1, MAX, 0, 0},
            {0, 0, 0, -1, 5}, {0, 0, 0, 1, 5}, {2, 0, 0, 2, 5}, {0, 0, 0, 8, 5}, {0, 0, 0, MIN, 5}, {0, 0, 0, MAX, 5},
            {0, 0, 0, 0, -1}, {0, 0, 0, 0, 200}, {0, 0, 0, 0, MIN}, {0, 0, 0, 0, MAX}};
        for (int[] e : edits) {
            String edit = e[0] + ", " + e[1] + ", " + e[2] + ", " + e[3] + ", " + e[4];
            C.due("ways " + edit, x.ways(e[0], e[1], e[2], e[3], e[4]), -1);
            C.due("least way " + edit, Hand.wayOf(x, e, -1), NONE_SUCH);
            C.due("first way " + edit, x.way(e[0], e[1], e[2], e[3], e[4], 0, 0), -1);
            C.due("why " + edit, x.why(e[0], e[1], e[2], e[3], e[4]), -1);
            C.due("barred " + edit, Hand.barredBy(x, e), "-1 -1 -1");
            C.due("put " + edit, x.put(e[0], e[1], e[2], e[3], e[4]), -1);
        }
        C.due("nothing was put", Hand.held(x, 0), "1 5, 2 5, 3 9");
        C.due("no put was done", x.carried(0, 0), -1);
    }

    private static void asFarAsItAsks() {
        C.part("15 to 19: (i, j, v as far as it asks for them)");
        ThroughWindow x = fives();
        x.draft(0, 6);
        for (int wild : new int[] {MIN, -1, 8, 200, MAX}) {
            C.due("drop asks for its row alone", x.ways(0, 1, 2, wild, wild), 1);
            C.due("way", Hand.wayOf(x, Hand.edit(0, 1, 2, wild, wild), 0), "2 2 0 3 -1 -1");
            C.due("why", x.why(0, 1, 2, wild, wild), 0);
            C.due("add asks for none", x.ways(0, 2, wild, wild, wild), 1);
            C.due("way", Hand.wayOf(x, Hand.edit(0, 2, wild, wild, wild), 0), "2 3 0 0 -1 -1");
            C.due("why", x.why(0, 2, wild, wild, wild), 0);
        }
        C.yes("span", x.span(0, 1, 5, 9));
        C.due("drop is not barred", x.barred(0, 1, 2, MIN, MAX, 0), -1);
        C.due("add is not barred", x.barred(0, 2, MIN, MAX, MIN, 0), -1);
        C.due("put: add", x.put(0, 2, MIN, MAX, -1), 2);
        C.due("put: drop", x.put(0, 1, 0, MAX, MIN), 2);
        C.due("rows", Hand.held(x, 0), "0 6, 2 5, 3 9");
    }

    private static void noRowIsSeen() {
        C.part("15: no such ROW, where none is SEEN");
        ThroughWindow x = Hand.walls(Hand.columns(2));
        tell(x, 0, "over wall 0;");
        C.due("change", x.ways(0, 0, 0, 0, 0), -1);
        C.due("drop", x.ways(0, 1, 0, 0, 0), -1);
        C.due("add", x.ways(0, 2, 0, 0, 0), 1);
        C.due("put", x.put(0, 2, 0, 0, 0), 2);
        C.due("drop", x.put(0, 1, 0, 0, 0), 2);
        C.due("none again", x.ways(0, 1, 0, 0, 0), -1);
        tell(x, 1, "over wall 0; sum 0 by 1;");
        C.due("change of a sum of nothing", x.ways(1, 0, 0, 0, 0), -1);
        C.due("drop of a sum of nothing", x.why(1, 1, 0, 0, 0), -1);
    }

    private static void valuesUpTo199() {
        C.part("15: v (0 to 199)");
        ThroughWindow x = fives();
        C.due("0", x.ways(0, 0, 0, 0, 0), 2);
        C.due("19", x.ways(0, 0, 0, 0, 19), 2);
        C.due("20: a value, but none of a wall", x.ways(0, 0, 0, 0, 20), 0);
        C.due("199", x.ways(0, 0, 0, 0, 199), 0);
        C.due("200", x.ways(0, 0, 0, 0, 200), -1);
        C.due("-1", x.ways(0, 0, 0, 0, -1), -1);
    }

    private static void wantedInOrder() {
        C.part("15: WANTED: the ROWS that are SEEN, so edited, in order");
        ThroughWindow x = Hand.walls(Hand.columns(2), Hand.row(0, 1, 3), Hand.row(0, 2, 6), Hand.row(0, 3, 9));
        tell(x, 0, "over wall 0; few 1;");
        ways(x, Hand.edit(0, 0, 0, 0, 19), 0, "1 1 0 1 1 19");
        ways(x, Hand.edit(0, 0, 2, 0, 0), 0, "1 1 0 3 1 0");
        ways(x, Hand.edit(0, 0, 1, 0, 9), 0, "1 1 0 2 1 9");
        C.due("the first becomes the last", x.put(0, 0, 0, 0, 19), 1);
        C.due("in order", Hand.shown(x, 0), "6, 9, 19");
        x.draft(0, 9);
        C.due("one that is seen already comes once more", x.put(0, 2, 0, 0, 0), 2);
        C.due("in order", Hand.shown(x, 0), "6, 9, 9, 19");
    }

    private static void anotherValueByWalls() {
        C.part("16: (a) .. by WALLS");
        ThroughWindow x = Hand.walls(Hand.columns(2, 2), Hand.row(0, 4, 7), Hand.row(0, 5, 9), Hand.row(1, 1, 4));
        tell(x, 0, "over wall 1; join 0 by 1; few 2;");
        ways(x, Hand.edit(0, 0, 0, 0, 9), 0, "1 1 0 4 1 9", "1 1 1 1 1 5");
    }

    private static void anotherValueByKeysColumnsValues() {
        C.part("16: (a) .. KEYS, COLUMNS, VALUES");
        ThroughWindow x = Hand.walls(Hand.columns(3), Hand.row(0, 19, 0, 19), Hand.row(0, 0, 8, 8));
        tell(x, 0, "over wall 0; few 0;");
        int[] edit = {0, 0, 1, 0, 19};
        C.due("nothing, and each other value of four cells", x.ways(0, 0, 1, 0, 19), 1 + 4 * 19);
        int[] keys = {0, 0, 19, 19};
        int[] now = {8, 8, 0, 19};
        for (int cell = 0; cell < 4; cell++) {
            int n = 1 + 19 * cell;
            for (int value = 0; value < 20; value++) {
                if (value != now[cell]) {
                    String due = "1 1 0 " + keys[cell] + " " + (1 + cell % 2) + " " + value;
                    C.due("way " + n, Hand.wayOf(x, edit, n), due);
                    n++;
                }
            }
        }
    }

    private static void anotherValueNeverOfAKey() {
        C.part("15: (a) one VALUE (of a COLUMN but the KEY)");
        ThroughWindow x = Hand.walls(Hand.columns(2), Hand.row(0, 1, 5));
        tell(x, 0, "over wall 0;");
        C.due("the key to another", x.ways(0, 0, 0, 0, 2), 0);
        C.due("its value to another", x.ways(0, 0, 0, 1, 2), 1);
        tell(x, 1, "over wall 0; few 0;");
        C.due("the key to another", x.ways(1, 0, 0, 0, 2), 0);
        C.due("put", x.put(1, 0, 0, 0, 2), -1);
        ThroughWindow y = Hand.walls(Hand.columns(1), Hand.row(0, 1));
        tell(y, 0, "over wall 0;");
        C.due("a wall with a key alone", y.ways(0, 0, 0, 0, 2), 0);
        C.due("nothing alone", y.ways(0, 0, 0, 0, 1), 1);
    }

    private static void wallsUnderTheWindow() {
        C.part("15: the WALLS under a WINDOW (its BASE and those joined)");
        ThroughWindow x = Hand.walls(Hand.columns(2, 2, 2), Hand.row(0, 1, 1), Hand.row(1, 1, 1), Hand.row(2, 1, 1));
        tell(x, 0, "over wall 1; few 0;");
        x.draft(0, 1);
        C.due("nothing, 19 of the base", x.ways(0, 0, 0, 0, 1), 20);
        tell(x, 1, "over wall 1; few 0; join 2 by 0; few 0;");
        C.due("and 19 of the wall joined", x.ways(1, 0, 0, 0, 1), 39);
        C.due("the last is of that", Hand.wayOf(x, Hand.edit(1, 0, 0, 0, 1), 38), "1 1 2 1 1 19");
        tell(x, 2, "over window 1; join 0 by 0; few 0;");
        C.due("and 19 of the one joined above", x.ways(2, 0, 0, 0, 1), 58);
        C.due("that comes first", Hand.wayOf(x, Hand.edit(2, 0, 0, 0, 1), 1), "1 1 0 1 1 0");
    }

    private static void aRowGoes() {
        C.part("16: (b) one ROW goes: by WALLS, KEYS; PRICE: the COLUMNS of the WALL of (b)");
        for (int columns = 1; columns < 5; columns++) {
            ThroughWindow x = Hand.walls(Hand.columns(0, columns), Hand.row(1, 8, 1, 1, 1), Hand.row(1, 19, 1, 1, 1));
            tell(x, 0, "over wall 1; few 0;");
            ways(x, Hand.edit(0, 1, 0, 0, 0), 0, columns + " 2 1 8 -1 -1");
            ways(x, Hand.edit(0, 1, 1, 0, 0), 0, columns + " 2 1 19 -1 -1");
        }
        ThroughWindow y = Hand.walls(Hand.columns(1, 3, 2), Hand.row(0, 4), Hand.row(1, 1, 4, 6), Hand.row(2, 6, 0));
        C.yes("span", y.span(1, 1, 4, 4));
        C.yes("span", y.span(1, 2, 6, 6));
        tell(y, 0, "over wall 1; join 2 by 2; join 0 by 1; few 0;");
        ways(y, Hand.edit(0, 1, 0, 0, 0), 0, "1 2 0 4 -1 -1", "3 2 1 1 -1 -1", "2 2 2 6 -1 -1");
        ThroughWindow z = fives();
        ways(z, Hand.edit(0, 1, 1, 0, 0), 0, "2 2 0 1 -1 -1", "2 2 0 2 -1 -1");
    }

    private static void aRowComes() {
        C.part("16: (c) a ROW comes to the BASE; PRICE: the COLUMNS of the WALL of .. (c)");
        for (int columns = 1; columns < 5; columns++) {
            ThroughWindow x = Hand.walls(Hand.columns(0, 0, columns));
            x.draft(0, 19);
            tell(x, 3, "over wall 2;");
            ways(x, Hand.edit(3, 2, 0, 0, 0), 0, columns + " 3 2 19 -1 -1");
        }
        ThroughWindow y = Hand.walls(Hand.columns(2), Hand.row(0, 1, 5));
        tell(y, 0, "over wall 0; cut 1 more 6;");
        y.draft(0, 1);
        y.draft(1, 7);
        ways(y, Hand.edit(0, 2, 0, 0, 0), 0, "1 1 0 1 1 7");
        tell(y, 1, "over wall 0; cut 1 more 6; few 1; fill 0 2;");
        y.draft(0, 7);
        ways(y, Hand.edit(1, 2, 0, 0, 0), 0, "1 1 0 1 1 7", "2 3 0 2 -1 -1");
    }

    private static void aRowComesAsDraftedOrFilled() {
        C.part("16: in each COLUMN the VALUE DRAFTED .. FILL where none does");
        ThroughWindow x = Hand.walls(Hand.columns(4, 2), Hand.row(1, 3, 17));
        x.draft(0, 17);
        x.draft(1, 3);
        x.draft(2, 11);
        tell(x, 0, "over wall 0; join 1 by 1; few 4 1 0; fill 2 9; fill 1 8; fill 0 7;");
        ways(x, Hand.edit(0, 2, 0, 0, 0), 0, "4 3 0 11 -1 -1");
        C.due("put", x.put(0, 2, 0, 0, 0), 4);
        C.due("drafted, drafted, filled, none told: 0", Hand.held(x, 0), "11 3 9 0");
        ThroughWindow y = Hand.walls(Hand.columns(3));
        y.draft(0, 5);
        y.draft(1, 6);
        tell(y, 0, "over wall 0; fill 0 1; fill 1 5; fill 2 6; sum 2 by 1;");
        C.due("behind a sum all are filled", y.put(0, 2, 0, 0, 0), 3);
        C.due("rows", Hand.held(y, 0), "1 5 6");
    }

    private static void aRowOfTheBasesOwn() {
        C.part("16: (of the BASE's own)");
        ThroughWindow x = Hand.walls(Hand.columns(2), Hand.row(0, 4, 4));
        tell(x, 0, "over wall 0; join 0 by 1; few 2 0; fill 1 4;");
        x.draft(0, 4);
        x.draft(1, 9);
        C.due("column 1 is shown of the row that is joined: fill", x.put(0, 2, 0, 0, 0), 2);
        C.due("rows", Hand.held(x, 0), "4 4, 9 4");
        tell(x, 1, "over wall 0; join 0 by 1; few 2 1 0;");
        x.draft(0, 4);
        x.draft(1, 9);
        x.draft(2, 2);
        C.due("column 1 is shown of its own: drafted", x.put(1, 2, 0, 0, 0), 2);
        C.due("rows", Hand.held(x, 0), "2 9, 4 4, 9 4");
    }

    private static void aRowCanNotCome() {
        C.part("16: each KEY once, 10 at most: a ROW that can't come is no WAY");
        ThroughWindow x = Hand.walls(Hand.columns(2), Hand.row(0, 5, 5));
        tell(x, 0, "over wall 0;");
        x.draft(0, 5);
        C.due("its key is there", x.ways(0, 2, 0, 0, 0), 0);
        x.draft(1, 5);
        C.due("the same row", x.ways(0, 2, 0, 0, 0), 0);
        x.draft(0, 0);
        for (int key = 6; key < 14; key++) {
            x.row(0, key, 5, 0, 0);
        }
        C.due("a tenth", x.ways(0, 2, 0, 0, 0), 1);
        x.row(0, 19, 6, 0, 0);
        C.due("an eleventh", x.ways(0, 2, 0, 0, 0), 0);
        tell(x, 1, "over wall 0; cut 1 is 5;");
        x.draft(0, 19);
        ways(x, Hand.edit(1, 2, 0, 0, 0), 0, "1 1 0 19 1 5");
        C.due("ten rows seen", x.put(1, 2, 0, 0, 0), 1);
        C.due("ten rows seen: no eleventh", x.ways(1, 2, 0, 0, 0), 0);
        C.due("put", x.put(1, 2, 0, 0, 0), -1);
    }

    private static void waysAreLawful() {
        C.part("15: those by which the STATE is LAWFUL");
        ThroughWindow x = fives();
        C.yes("span", x.span(0, 1, 4, 9));
        C.due("below the span", x.ways(0, 0, 0, 0, 3), 0);
        C.due("the least", x.ways(0, 0, 0, 0, 4), 2);
        C.due("above the span", x.ways(0, 0, 0, 0, 10), 0);
        x.draft(0, 3);
        C.due("a row outside comes", x.ways(0, 2, 0, 0, 0), 0);
        x.draft(0, 4);
        C.due("a row inside comes", x.ways(0, 2, 0, 0, 0), 1);
        C.yes("span of the key", x.span(0, 0, 1, 3));
        C.due("its key is outside", x.ways(0, 2, 0, 0, 0), 0);
        ThroughWindow y = Hand.walls(Hand.columns(2, 2), Hand.row(1, 5, 1), Hand.row(1, 6, 1), Hand.row(0, 1, 5));
        C.yes("names", y.names(0, 1, 1));
        tell(y, 0, "over wall 0;");
        tell(y, 1, "over wall 1;");
        C.due("it names none", y.ways(0, 0, 0, 1, 7), 0);
        C.due("it names another", y.ways(0, 0, 0, 1, 6), 1);
        C.due("a row that is named goes", y.ways(1, 1, 0, 0, 0), 0);
        C.due("a row that is not named goes", y.ways(1, 1, 1, 0, 0), 1);
        ThroughWindow z = Hand.walls(Hand.columns(2), Hand.row(0, 1, 5), Hand.row(0, 2, 6));
        C.yes("once", z.once(0, 1, true));
        tell(z, 0, "over wall 0; few 1; fill 0 9;");
        C.due("6 is there", z.ways(0, 0, 0, 0, 6), 0);
        C.due("7 is not", z.ways(0, 0, 0, 0, 7), 1);
        z.draft(0, 6);
        C.due("another 6 comes", z.ways(0, 2, 0, 0, 0), 0);
        for (int wall = 0; wall < 3; wall++) {
            ThroughWindow w = Hand.walls(Hand.columns(2, 2, 2), Hand.row(wall, 0, 5), Hand.row(wall, 19, 6));
            C.yes("once", w.once(wall, 1, true));
            tell(w, 0, "over wall " + wall + "; few 1;");
            C.due("the least key has 5", w.ways(0, 0, 1, 0, 5), 0);
            C.due("the greatest key has 6", w.ways(0, 0, 0, 0, 6), 0);
            C.due("none has 0", w.ways(0, 0, 0, 0, 0), 1);
            C.due("none has 19", w.ways(0, 0, 0, 0, 19), 1);
        }
    }

    private static void nothingIsTheFirst() {
        C.part("16: as the first one, nothing is changed (if it is WANTED as it is)");
        ThroughWindow x = fives();
        ways(x, Hand.edit(0, 0, 2, 0, 9), 0, NOTHING);
        ways(x, Hand.edit(0, 0, 0, 0, 5), 0, NOTHING);
        C.due("put", x.put(0, 0, 0, 0, 5), 0);
        C.due("rows", Hand.held(x, 0), "1 5, 2 5, 3 9");
        tell(x, 1, "over wall 0; cut 1 is 9; cut 1 is 8;");
        C.due("an add is never as it is", x.ways(1, 2, 0, 0, 0), 0);
        ThroughWindow y = Hand.walls(Hand.columns(1, 3), Hand.row(0, 6), Hand.row(0, 7));
        tell(y, 0, "over wall 0; cut 0 is 6;");
        y.draft(0, 9);
        ways(y, Hand.edit(0, 0, 0, 0, 6), 0, NOTHING, "1 2 0 7 -1 -1", "1 3 0 9 -1 -1");
    }

    private static void leastIsTheFirstOfTheLeastPrice() {
        C.part("16: LEAST: the first of the least PRICE");
        ThroughWindow x = Hand.walls(Hand.columns(3, 1), Hand.row(0, 2, 4, 1), Hand.row(1, 4));
        C.yes("span", x.span(0, 1, 4, 4));
        tell(x, 0, "over wall 0; join 1 by 1; few 0;");
        ways(x, Hand.edit(0, 1, 0, 0, 0), 1, "3 2 0 2 -1 -1", "1 2 1 4 -1 -1");
        C.due("put", x.put(0, 1, 0, 0, 0), 1);
        C.due("wall 0 stays", Hand.held(x, 0), "2 4 1");
        C.due("wall 1", Hand.held(x, 1), "");
        ThroughWindow y = Hand.walls(Hand.columns(2, 1), Hand.row(0, 2, 4), Hand.row(1, 4));
        C.yes("span", y.span(0, 1, 4, 5));
        tell(y, 0, "over wall 0; join 1 by 1;");
        ways(y, Hand.edit(0, 1, 0, 0, 0), 0, "1 1 0 2 1 5", "2 2 0 2 -1 -1", "1 2 1 4 -1 -1");
        ThroughWindow z = Hand.walls(Hand.columns(2, 2), Hand.row(0, 2, 4), Hand.row(1, 4, 1));
        C.yes("span", z.span(0, 1, 4, 4));
        tell(z, 0, "over wall 0; join 1 by 1; few 0;");
        ways(z, Hand.edit(0, 1, 0, 0, 0), 0, "2 2 0 2 -1 -1", "2 2 1 4 -1 -1");
    }

    private static void wayNoneSuch() {
        C.part("16: NONE: .. none such");
        ThroughWindow x = fives();
        int[] edit = {0, 0, 0, 0, 7};
        for (int n : new int[] {-2, 2, 3, MIN, MAX}) {
            C.due("way " + n, Hand.wayOf(x, edit, n), NONE_SUCH);
        }
        for (int what : new int[] {-1, 6, 7, MIN, MAX}) {
            C.due("what " + what, x.way(0, 0, 0, 0, 7, 0, what), -1);
            C.due("least, what " + what, x.way(0, 0, 0, 0, 7, -1, what), -1);
        }
        C.due("least of none", Hand.wayOf(x, Hand.edit(0, 0, 0, 0, 20), -1), NONE_SUCH);
        C.due("the first of none", Hand.wayOf(x, Hand.edit(0, 0, 0, 0, 20), 0), NONE_SUCH);
    }

    private static void straightOfAKey() {
        C.part("17: STRAIGHT: .. of a KEY .. it can't be done: 1 alone");
        ThroughWindow x = Hand.walls(Hand.columns(2), Hand.row(0, 0, 3), Hand.row(0, 19, 3));
        tell(x, 0, "over wall 0;");
        C.due("to one that is there", x.why(0, 0, 0, 0, 19), 1);
        C.due("to one that is not", x.why(0, 0, 0, 0, 1), 1);
        C.due("to itself", x.why(0, 0, 0, 0, 0), 1);
        C.due("not barred", Hand.barredBy(x, 0, 0, 0, 0, 19), "-1 -1 -1");
        C.yes("span", x.span(0, 1, 3, 3));
        C.due("the value beside it is barred", Hand.barredBy(x, 0, 0, 0, 1, 4), "0 1 1");
        C.due("not barred", Hand.barredBy(x, 0, 0, 0, 0, 4), "-1 -1 -1");
    }

    private static void straightWithoutASource() {
        C.part("17: STRAIGHT: .. without a SOURCE .. it can't be done: 1 alone");
        ThroughWindow x = Hand.walls(Hand.columns(2, 2), Hand.row(0, 1, 5), Hand.row(1, 5, 9));
        tell(x, 0, "over wall 0; sum 0 by 1; join 1 by 0;");
        C.due("the value of a sum", x.why(0, 0, 0, 0, 6), 1);
        C.due("the sum", x.why(0, 0, 0, 1, 2), 1);
        C.due("the sum as it is", x.why(0, 0, 0, 1, 1), 1);
        C.due("what is joined has one", x.why(0, 0, 0, 2, 8), 0);
        C.due("not barred", Hand.barredBy(x, 0, 0, 0, 1, 2), "-1 -1 -1");
    }

    private static void straightAboveNineteen() {
        C.part("17: STRAIGHT: .. of v above 19: it can't be done: 1 alone");
        ThroughWindow x = fives();
        C.due("19", x.why(0, 0, 0, 0, 19), 0);
        C.due("20", x.why(0, 0, 0, 0, 20), 1);
        C.due("199", x.why(0, 0, 0, 0, 199), 1);
        C.due("not barred", Hand.barredBy(x, 0, 0, 0, 0, 20), "-1 -1 -1");
        C.yes("span", x.span(0, 1, 0, 18));
        C.due("19 is barred", Hand.barredBy(x, 0, 0, 0, 0, 19), "0 1 1");
        C.due("20 can't be done so", Hand.barredBy(x, 0, 0, 0, 0, 20), "-1 -1 -1");
        tell(x, 1, "over wall 0; cut 1 less 10; few 1;");
        C.due("1 alone, though it would not be seen", x.why(1, 0, 0, 0, 150), 1);
    }

    private static void straightDropBehindASum() {
        C.part("17: STRAIGHT: .. of DROP .. (behind a sum: it can't): 1 alone");
        ThroughWindow x = Hand.walls(Hand.columns(2, 2), Hand.row(0, 1, 5), Hand.row(1, 5, 9));
        tell(x, 0, "over wall 0; sum 0 by 1;");
        tell(x, 1, "over window 0; join 1 by 0; few 2;");
        C.due("behind a sum", x.why(0, 1, 0, 0, 0), 1);
        C.due("in a window over it", x.why(1, 1, 0, 0, 0), 1);
        C.due("not barred", Hand.barredBy(x, 0, 1, 0, 0, 0), "-1 -1 -1");
        C.due("there are ways: 19 values, a row", x.ways(1, 1, 0, 0, 0), 19 + 2);
    }

    private static void straightAddThatCanNot() {
        C.part("17: STRAIGHT of ADD (c), which can't come: 1 alone");
        ThroughWindow x = Hand.walls(Hand.columns(2), Hand.row(0, 0, 3));
        tell(x, 0, "over wall 0; cut 1 more 2;");
        C.due("its key is there", x.why(0, 2, 0, 0, 0), 1);
        C.due("not barred", Hand.barredBy(x, 0, 2, 0, 0, 0), "-1 -1 -1");
        x.draft(0, 19);
        C.due("it is not seen", x.why(0, 2, 0, 0, 0), 2);
        for (int key = 1; key < 10; key++) {
            x.row(0, key, 3, 0, 0);
        }
        C.due("ten are there", x.why(0, 2, 0, 0, 0), 1);
        C.yes("span", x.span(0, 1, 3, 3));
        C.due("not barred", Hand.barredBy(x, 0, 2, 0, 0, 0), "-1 -1 -1");
        x.out(0, 9);
        C.due("nine are", x.why(0, 2, 0, 0, 0), 3);
        C.due("barred", Hand.barredBy(x, 0, 2, 0, 0, 0), "0 1 1");
    }

    private static void whyNotLawful() {
        C.part("17: 1 it is not LAWFUL");
        ThroughWindow x = Hand.walls(Hand.columns(3, 1), Hand.row(1, 5), Hand.row(0, 1, 5, 3), Hand.row(0, 2, 5, 4));
        tell(x, 0, "over wall 0;");
        tell(x, 1, "over wall 1;");
        C.due("lawful: 0", x.why(0, 0, 0, 1, 6), 0);
        C.yes("names", x.names(0, 1, 1));
        C.due("it names none", x.why(0, 0, 0, 1, 6), 1);
        C.due("a named row goes", x.why(1, 1, 0, 0, 0), 1);
        C.yes("once", x.once(0, 2, true));
        C.due("it is there", x.why(0, 0, 0, 2, 4), 1);
        C.yes("span", x.span(0, 2, 3, 4));
        C.due("it is outside", x.why(0, 0, 0, 2, 5), 1);
        x.draft(0, 3);
        C.due("a row comes that is not lawful", x.why(0, 2, 0, 0, 0), 1);
    }

    private static void whyNotAsMany() {
        C.part("17: 2 not as many ROWS are SEEN as WANTED");
        ThroughWindow x = Hand.walls(Hand.columns(2), Hand.row(0, 1, 2), Hand.row(0, 2, 2), Hand.row(0, 3, 9));
        tell(x, 0, "over wall 0; cut 1 less 9;");
        C.due("it goes out of sight", x.why(0, 0, 0, 1, 9), 2);
        C.due("it stays in sight", x.why(0, 0, 0, 1, 8), 0);
        tell(x, 1, "over wall 0; join 0 by 1;");
        C.due("another goes with it", x.why(1, 1, 1, 0, 0), 2);
        C.due("it goes alone", x.why(1, 1, 0, 0, 0), 0);
        x.draft(1, 9);
        C.due("it comes out of sight", x.why(0, 2, 0, 0, 0), 2);
        C.yes("span", x.span(0, 1, 2, 9));
        C.due("out of sight and out of span", x.why(0, 0, 0, 1, 10), 3);
    }

    private static void whyNotThose() {
        C.part("17: 4 as many, but not those");
        ThroughWindow x = Hand.walls(Hand.columns(2, 2), Hand.row(0, 1, 5), Hand.row(0, 2, 5), Hand.row(1, 5, 7),
                Hand.row(1, 6, 8));
        tell(x, 0, "over wall 0; join 1 by 1;");
        C.due("both change", x.why(0, 0, 0, 2, 9), 4);
        C.due("another value is joined", x.why(0, 0, 0, 1, 6), 4);
        C.yes("once", x.once(1, 1, true));
        C.due("both change, and 8 is there", x.why(0, 0, 0, 2, 8), 5);
        x.draft(0, 3);
        x.draft(1, 6);
        x.draft(2, 7);
        C.due("6 8 comes, not 6 7", x.why(0, 2, 0, 0, 0), 4);
        x.draft(2, 8);
        C.due("6 8", x.why(0, 2, 0, 0, 0), 0);
        C.yes("span of the key", x.span(0, 0, 1, 2));
        C.due("6 8, but its key is outside", x.why(0, 2, 0, 0, 0), 1);
        x.draft(2, 7);
        C.due("not 6 7, and its key is outside", x.why(0, 2, 0, 0, 0), 5);
    }

    private static void barredByEachLaw() {
        C.part("18: WALL, COLUMN, 1 SPAN, 2 NAMES, 3 ONCE");
        ThroughWindow x = Hand.walls(Hand.columns(2, 1, 4), Hand.row(1, 5), Hand.row(0, 1, 5), Hand.row(2, 1, 1, 1, 3),
                Hand.row(2, 2, 1, 1, 4));
        x.names(0, 1, 1);
        x.once(2, 3, true);
        x.span(2, 2, 1, 19);
        tell(x, 0, "over wall 0;");
        tell(x, 1, "over wall 1;");
        tell(x, 2, "over wall 2;");
        C.due("span", Hand.barredBy(x, 2, 0, 0, 2, 0), "2 2 1");
        C.due("names", Hand.barredBy(x, 0, 0, 0, 1, 6), "0 1 2");
        C.due("names of another wall", Hand.barredBy(x, 1, 1, 0, 0, 0), "0 1 2");
        C.due("once", Hand.barredBy(x, 2, 0, 0, 3, 4), "2 3 3");
        x.span(1, 0, 5, 9);
        x.draft(0, 4);
        C.due("span of a key", Hand.barredBy(x, 1, 2, 0, 0, 0), "1 0 1");
    }

    private static void barredByTheFirst() {
        C.part("18: the first LAW .. by WALLS, COLUMNS, of one COLUMN SPAN, NAMES, ONCE");
        ThroughWindow x = Hand.walls(Hand.columns(3, 1, 2), Hand.row(1, 5), Hand.row(0, 1, 5, 5), Hand.row(2, 1, 5));
        x.names(2, 1, 1);
        tell(x, 1, "over wall 1;");
        C.due("wall 2", Hand.barredBy(x, 1, 1, 0, 0, 0), "2 1 2");
        x.names(0, 2, 1);
        C.due("wall 0 ahead of wall 2", Hand.barredBy(x, 1, 1, 0, 0, 0), "0 2 2");
        x.names(0, 1, 1);
        C.due("column 1 ahead of column 2", Hand.barredBy(x, 1, 1, 0, 0, 0), "0 1 2");
        tell(x, 0, "over wall 0;");
        C.due("names", Hand.barredBy(x, 0, 0, 0, 1, 9), "0 1 2");
        x.span(0, 1, 5, 8);
        C.due("span ahead of names", Hand.barredBy(x, 0, 0, 0, 1, 9), "0 1 1");
        x.once(0, 1, true);
        x.draft(0, 2);
        x.draft(1, 5);
        x.draft(2, 9);
        C.due("once of column 1 ahead of names of column 2", Hand.barredBy(x, 0, 2, 0, 0, 0), "0 1 3");
        x.draft(1, 9);
        C.due("span of column 1", Hand.barredBy(x, 0, 2, 0, 0, 0), "0 1 1");
        x.span(0, 0, 0, 1);
        C.due("span of the key", Hand.barredBy(x, 0, 2, 0, 0, 0), "0 0 1");
    }

    private static void barredNone() {
        C.part("18: NONE: .. no LAW is broken");
        ThroughWindow x = fives();
        C.due("change", Hand.barredBy(x, 0, 0, 0, 0, 7), "-1 -1 -1");
        C.due("drop", Hand.barredBy(x, 0, 1, 0, 0, 0), "-1 -1 -1");
        C.due("add", Hand.barredBy(x, 0, 2, 0, 0, 0), "-1 -1 -1");
        tell(x, 1, "over wall 0; cut 1 is 9;");
        C.due("not seen, but lawful", Hand.barredBy(x, 1, 0, 0, 1, 8), "-1 -1 -1");
        C.yes("span", x.span(0, 1, 5, 9));
        for (int what : new int[] {-1, 3, MIN, MAX}) {
            C.due("what " + what, x.barred(0, 0, 0, 0, 4, what), -1);
        }
        C.due("barred", Hand.barredBy(x, 0, 0, 0, 0, 4), "0 1 1");
    }

    private static void putOfEachKind() {
        C.part("19: PUT: the PRICE");
        ThroughWindow x = Hand.walls(Hand.columns(3), Hand.row(0, 1, 5, 6), Hand.row(0, 2, 7, 8));
        tell(x, 0, "over wall 0;");
        C.due("nothing", x.put(0, 0, 0, 1, 5), 0);
        C.due("rows", Hand.held(x, 0), "1 5 6, 2 7 8");
        C.due("another value", x.put(0, 0, 1, 2, 19), 1);
        C.due("rows", Hand.held(x, 0), "1 5 6, 2 7 19");
        C.due("a row goes", x.put(0, 1, 0, 0, 0), 3);
        C.due("rows", Hand.held(x, 0), "2 7 19");
        C.due("how many", x.count(0), 1);
        x.draft(2, 4);
        C.due("a row comes", x.put(0, 2, 0, 0, 0), 3);
        C.due("rows", Hand.held(x, 0), "0 0 4, 2 7 19");
        C.due("how many", x.count(0), 2);
    }

    private static void putThatCanNot() {
        C.part("19: NONE: .. no WAY");
        ThroughWindow x = Hand.walls(Hand.columns(2), Hand.row(0, 1, 5));
        tell(x, 0, "over wall 0;");
        x.draft(0, 1);
        C.due("a key to another", x.put(0, 0, 0, 0, 2), -1);
        C.due("above 19", x.put(0, 0, 0, 1, 20), -1);
        C.due("its key is there", x.put(0, 2, 0, 0, 0), -1);
        C.due("rows stay", Hand.held(x, 0), "1 5");
        C.due("no put was done", x.carried(0, 0), -1);
    }
}
