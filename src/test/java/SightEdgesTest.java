/**
 * What is seen through windows, its sources, and the draft (promises 11 to 14): each sentence of the
 * document that names a boundary has a test of its own, which begins with that sentence.
 */
public final class SightEdgesTest {
    private static final Checks C = new Checks("SightEdgesTest");
    private static final int MIN = Hand.MIN;
    private static final int MAX = Hand.MAX;

    public static void main(String[] args) {
        seenNoneSuch();
        seenNothing();
        seenTenRows();
        cutLess();
        cutIs();
        cutMore();
        cutOfSums();
        fewInThisOrder();
        joinWithoutSuchARow();
        joinOfAKeyAlone();
        joinOfTheBaseItself();
        joinByAValueAboveAllKeys();
        sumForEachValue();
        sumOfNoRows();
        sumAtItsGreatest();
        sumOfASum();
        orderByValues();
        orderOfAlikeOnes();
        orderBehindASum();
        windowsOverWindows();
        sourceOfWhatIsSeen();
        sourceOfASum();
        sourceNoneSuch();
        lookAtAll();
        lookNoneSuch();
        draftEdges();
        draftAtFirst();
        fillTheLatest();
        toldAnew();
        C.end();
    }

    private static ThroughWindow fives() {
        return Hand.walls(Hand.columns(2), Hand.row(0, 1, 5), Hand.row(0, 2, 5), Hand.row(0, 3, 9));
    }

    /** Tells the window and answers what is seen through it. */
    private static void sees(ThroughWindow x, int window, String text, String due) {
        C.due("window(" + window + ") of " + text, Hand.tell(x, window, text), 0);
        C.due(text, Hand.shown(x, window), due);
    }

    private static void seenNoneSuch() {
        C.part("11: NONE: none such");
        ThroughWindow x = fives();
        sees(x, 2, "over wall 0;", "1 5, 2 5, 3 9");
        for (int window : new int[] {-1, 0, 1, 3, 5, 6, MIN, MAX}) {
            C.due("window " + window, x.seen(window, 0, 0), -1);
        }
        for (int i : new int[] {-1, 3, 4, 10, MIN, MAX}) {
            C.due("row " + i, x.seen(2, i, 0), -1);
        }
        for (int j : new int[] {-1, 2, 7, 8, MIN, MAX}) {
            C.due("column " + j, x.seen(2, 0, j), -1);
        }
        C.due("the last", x.seen(2, 2, 1), 9);
    }

    private static void seenNothing() {
        C.part("11: a WINDOW without ROWS");
        ThroughWindow x = Hand.walls(Hand.columns(4, 2));
        sees(x, 0, "over wall 0;", "");
        sees(x, 1, "over wall 0; join 1 by 0; cut 4 more 3; few 4 0; sum 0 by 1;", "");
        sees(x, 2, "over window 1; sum 1 by 0;", "");
        for (int window = 0; window < 3; window++) {
            C.due("rows", x.look(window, 0), 0);
            C.due("seen", x.seen(window, 0, 0), -1);
            C.due("source", x.source(window, 0, 0, 0), -1);
        }
    }

    private static void seenTenRows() {
        C.part("11: all of 10 ROWS and 8 COLUMNS");
        ThroughWindow x = Hand.walls(Hand.columns(4, 4));
        for (int key = 0; key < 10; key++) {
            x.row(0, key, key, key, key);
            x.row(1, key, 19, 18, 17);
        }
        C.due("window", Hand.tell(x, 0, "over wall 0; join 1 by 3; few 0 1 2 3 4; join 1 by 0;"), 0);
        C.due("rows", x.look(0, 0), 10);
        C.due("columns", x.look(0, 1), 8);
        C.due("the last of all", x.seen(0, 9, 7), 17);
        C.due("the first of it", x.seen(0, 9, 0), 9);
        C.due("none behind it", x.seen(0, 9, 8), -1);
        C.due("none below it", x.seen(0, 10, 7), -1);
    }

    private static ThroughWindow zeroTenNineteen() {
        return Hand.walls(Hand.columns(2), Hand.row(0, 1, 0), Hand.row(0, 2, 10), Hand.row(0, 3, 19));
    }

    private static void cutLess() {
        C.part("11: cut leaves ROWS whose VALUE of C is less than N");
        ThroughWindow x = zeroTenNineteen();
        sees(x, 0, "over wall 0; cut 1 less 0;", "");
        sees(x, 0, "over wall 0; cut 1 less 1;", "1 0");
        sees(x, 0, "over wall 0; cut 1 less 10;", "1 0");
        sees(x, 0, "over wall 0; cut 1 less 11;", "1 0, 2 10");
        sees(x, 0, "over wall 0; cut 1 less 19;", "1 0, 2 10");
        sees(x, 0, "over wall 0; cut 1 less 20;", "1 0, 2 10, 3 19");
        sees(x, 0, "over wall 0; cut 1 less 199;", "1 0, 2 10, 3 19");
        sees(x, 0, "over wall 0; cut 0 less 2;", "1 0");
    }

    private static void cutIs() {
        C.part("11: cut leaves ROWS whose VALUE of C is .. N");
        ThroughWindow x = zeroTenNineteen();
        sees(x, 0, "over wall 0; cut 1 is 0;", "1 0");
        sees(x, 0, "over wall 0; cut 1 is 9;", "");
        sees(x, 0, "over wall 0; cut 1 is 10;", "2 10");
        sees(x, 0, "over wall 0; cut 1 is 19;", "3 19");
        sees(x, 0, "over wall 0; cut 1 is 199;", "");
        sees(x, 0, "over wall 0; cut 0 is 3;", "3 19");
    }

    private static void cutMore() {
        C.part("11: cut leaves ROWS whose VALUE of C is .. more than N");
        ThroughWindow x = zeroTenNineteen();
        sees(x, 0, "over wall 0; cut 1 more 0;", "2 10, 3 19");
        sees(x, 0, "over wall 0; cut 1 more 9;", "2 10, 3 19");
        sees(x, 0, "over wall 0; cut 1 more 10;", "3 19");
        sees(x, 0, "over wall 0; cut 1 more 18;", "3 19");
        sees(x, 0, "over wall 0; cut 1 more 19;", "");
        sees(x, 0, "over wall 0; cut 1 more 199;", "");
        sees(x, 0, "over wall 0; cut 0 more 0; cut 0 more 2;", "3 19");
    }

    private static void cutOfSums() {
        C.part("11: cut of a sum, N above all VALUES of WALLS");
        ThroughWindow x = Hand.walls(Hand.columns(3), Hand.row(0, 1, 4, 19), Hand.row(0, 2, 4, 18), Hand.row(0, 3, 5, 19));
        sees(x, 0, "over wall 0; sum 2 by 1; cut 1 is 37;", "4 37");
        sees(x, 0, "over wall 0; sum 2 by 1; cut 1 less 37;", "5 19");
        sees(x, 0, "over wall 0; sum 2 by 1; cut 1 less 38;", "4 37, 5 19");
        sees(x, 0, "over wall 0; sum 2 by 1; cut 1 more 36;", "4 37");
        sees(x, 0, "over wall 0; sum 2 by 1; cut 1 more 37;", "");
    }

    private static void fewInThisOrder() {
        C.part("11: few: .. in this order from then on");
        ThroughWindow x = Hand.walls(Hand.columns(4), Hand.row(0, 1, 2, 3, 4));
        sees(x, 0, "over wall 0; few 3 1 2 0;", "4 2 3 1");
        sees(x, 0, "over wall 0; few 2;", "3");
        sees(x, 0, "over wall 0; few 3 1 2 0; few 1 3; few 1;", "1");
        sees(x, 0, "over wall 0; few 3 1; cut 1 is 2;", "4 2");
    }

    private static void joinWithoutSuchARow() {
        C.part("11: join .. (without such a one the ROW is out)");
        ThroughWindow x = Hand.walls(Hand.columns(2, 3), Hand.row(0, 1, 0), Hand.row(0, 2, 5), Hand.row(0, 3, 19),
                Hand.row(1, 0, 8, 9));
        sees(x, 0, "over wall 0; join 1 by 1;", "1 0 8 9");
        x.row(1, 19, 6, 7, 0);
        C.due("two have one", Hand.shown(x, 0), "1 0 8 9, 3 19 6 7");
        x.row(1, 5, 1, 1, 0);
        C.due("all have one", Hand.shown(x, 0), "1 0 8 9, 2 5 1 1, 3 19 6 7");
        x.out(1, 0);
        x.out(1, 5);
        x.out(1, 19);
        C.due("none has one", Hand.shown(x, 0), "");
    }

    private static void joinOfAKeyAlone() {
        C.part("11: join of a WALL with a KEY alone");
        ThroughWindow x = Hand.walls(Hand.columns(2, 1), Hand.row(0, 1, 4), Hand.row(0, 2, 5), Hand.row(1, 5));
        sees(x, 0, "over wall 0; join 1 by 1;", "2 5");
        sees(x, 1, "over wall 1; join 1 by 0; join 1 by 0;", "5");
    }

    private static void joinOfTheBaseItself() {
        C.part("11: join of the BASE itself");
        ThroughWindow x = Hand.walls(Hand.columns(2), Hand.row(0, 1, 2), Hand.row(0, 2, 3), Hand.row(0, 4, 4));
        sees(x, 0, "over wall 0; join 0 by 1;", "1 2 3, 4 4 4");
        sees(x, 1, "over wall 0; join 0 by 1; join 0 by 2; few 3;", "4");
        C.due("by the row that is joined", Hand.sourceOf(x, 0, 0, 2), "0.2.1");
    }

    private static void joinByAValueAboveAllKeys() {
        C.part("11: join by a sum that no KEY can be");
        ThroughWindow x = Hand.walls(Hand.columns(3, 2), Hand.row(0, 1, 4, 19), Hand.row(0, 2, 4, 1), Hand.row(0, 3, 5, 19),
                Hand.row(1, 19, 7), Hand.row(1, 0, 7));
        sees(x, 0, "over wall 0; sum 2 by 1; join 1 by 1;", "5 19 7");
        sees(x, 1, "over wall 0; sum 2 by 1; join 1 by 0;", "");
        sees(x, 2, "over wall 0; sum 2 by 1; join 0 by 1;", "");
        x.row(1, 2, 7, 0, 0);
        x.wall(2, 1);
        x.row(2, 0, 0, 0, 0);
        sees(x, 3, "over wall 0; sum 2 by 1; join 2 by 1;", "");
        sees(x, 4, "over wall 0; sum 2 by 1; join 1 by 1;", "5 19 7");
    }

    private static void sumForEachValue() {
        C.part("11: sum C by D leaves a ROW for each VALUE of D that is there");
        ThroughWindow x = Hand.walls(Hand.columns(3), Hand.row(0, 1, 9, 3), Hand.row(0, 2, 0, 0), Hand.row(0, 3, 9, 4),
                Hand.row(0, 4, 0, 0));
        sees(x, 0, "over wall 0; sum 2 by 1;", "0 0, 9 7");
        sees(x, 1, "over wall 0; sum 1 by 2;", "0 0, 3 9, 4 9");
        sees(x, 2, "over wall 0; sum 0 by 1;", "0 6, 9 4");
        sees(x, 3, "over wall 0; sum 1 by 0;", "1 9, 2 0, 3 9, 4 0");
        sees(x, 4, "over wall 0; cut 0 less 3; sum 2 by 1;", "0 0, 9 3");
    }

    private static void sumOfNoRows() {
        C.part("11: a VALUE that no ROW has is not there");
        ThroughWindow x = fives();
        sees(x, 0, "over wall 0; cut 1 more 9; sum 0 by 1;", "");
        sees(x, 1, "over wall 0; sum 0 by 1;", "5 3, 9 3");
        x.out(0, 3);
        C.due("9 is there no more", Hand.shown(x, 1), "5 3");
    }

    private static void sumAtItsGreatest() {
        C.part("11: the sum of ten ROWS");
        ThroughWindow x = Hand.walls(Hand.columns(3));
        for (int key = 10; key < 20; key++) {
            x.row(0, key, 0, 19, 0);
        }
        sees(x, 0, "over wall 0; sum 2 by 1;", "0 190");
        sees(x, 1, "over window 0; cut 1 more 189; cut 1 less 191; cut 1 is 190;", "0 190");
        C.due("it may be wanted", x.ways(0, 0, 0, 1, 199), 0);
        C.due("as it is", x.way(0, 0, 0, 1, 190, -1, 0), 0);
        C.due("less by one: by each row", x.ways(0, 0, 0, 1, 189), 10);
    }

    private static void sumOfASum() {
        C.part("11: sum of a sum");
        ThroughWindow x = Hand.walls(Hand.columns(3), Hand.row(0, 1, 1, 5), Hand.row(0, 2, 2, 3), Hand.row(0, 3, 2, 2),
                Hand.row(0, 4, 3, 9));
        sees(x, 0, "over wall 0; sum 2 by 1; sum 0 by 1;", "5 3, 9 3");
        sees(x, 1, "over wall 0; sum 2 by 1; sum 1 by 0;", "1 5, 2 5, 3 9");
        sees(x, 2, "over window 0; sum 0 by 1;", "3 14");
    }

    private static void orderByValues() {
        C.part("11: in order by their VALUES from the first COLUMN on");
        ThroughWindow x = Hand.walls(Hand.columns(3), Hand.row(0, 1, 9, 0), Hand.row(0, 5, 0, 9), Hand.row(0, 7, 9, 10),
                Hand.row(0, 8, 0, 2), Hand.row(0, 9, 10, 0));
        sees(x, 0, "over wall 0; few 1 2;", "0 2, 0 9, 9 0, 9 10, 10 0");
        sees(x, 1, "over wall 0; few 2 1;", "0 9, 0 10, 2 0, 9 0, 10 9");
        sees(x, 2, "over window 1; few 1 0;", "0 2, 0 9, 9 0, 9 10, 10 0");
    }

    private static void orderOfAlikeOnes() {
        C.part("11: (alike ones by the KEYS of the BASE)");
        ThroughWindow x = Hand.walls(Hand.columns(3), Hand.row(0, 19, 4, 1), Hand.row(0, 0, 4, 3), Hand.row(0, 7, 4, 2));
        sees(x, 0, "over wall 0; few 1;", "4, 4, 4");
        sees(x, 1, "over wall 0; few 2 1;", "1 4, 2 4, 3 4");
        sees(x, 2, "over window 1; few 1;", "4, 4, 4");
        for (int window = 0; window < 3; window += 2) {
            C.due("the first", Hand.sourceOf(x, window, 0, 0), "0.0.1");
            C.due("the second", Hand.sourceOf(x, window, 1, 0), "0.7.1");
            C.due("the last", Hand.sourceOf(x, window, 2, 0), "0.19.1");
        }
        C.due("the second goes", x.why(0, 1, 1, 0, 0), 0);
    }

    private static void orderBehindASum() {
        C.part("11: (.. behind a sum as their VALUES came first)");
        ThroughWindow x = Hand.walls(Hand.columns(2, 2), Hand.row(0, 1, 8), Hand.row(0, 2, 3), Hand.row(0, 3, 8),
                Hand.row(0, 4, 5), Hand.row(1, 3, 6), Hand.row(1, 5, 6), Hand.row(1, 8, 6));
        sees(x, 0, "over wall 0; sum 0 by 1; join 1 by 0; few 2;", "6, 6, 6");
        C.due("8 came first", Hand.sourceOf(x, 0, 0, 0), "1.8.1");
        C.due("then 3", Hand.sourceOf(x, 0, 1, 0), "1.3.1");
        C.due("then 5", Hand.sourceOf(x, 0, 2, 0), "1.5.1");
        x.out(0, 1);
        C.due("now 3 comes first", Hand.sourceOf(x, 0, 0, 0), "1.3.1");
    }

    private static void windowsOverWindows() {
        C.part("11: (a WINDOW over a WINDOW: from what that shows)");
        ThroughWindow x = Hand.walls(Hand.columns(2), Hand.row(0, 1, 1), Hand.row(0, 2, 2), Hand.row(0, 3, 3),
                Hand.row(0, 4, 4), Hand.row(0, 5, 5), Hand.row(0, 6, 6), Hand.row(0, 7, 7));
        sees(x, 0, "over wall 0; cut 1 more 1;", "2 2, 3 3, 4 4, 5 5, 6 6, 7 7");
        sees(x, 1, "over window 0; cut 0 more 2;", "3 3, 4 4, 5 5, 6 6, 7 7");
        sees(x, 2, "over window 1; few 1;", "3, 4, 5, 6, 7");
        sees(x, 3, "over window 2; cut 0 less 7;", "3, 4, 5, 6");
        sees(x, 4, "over window 3; join 0 by 0;", "3 3, 4 4, 5 5, 6 6");
        sees(x, 5, "over window 4; sum 0 by 1; few 1;", "3, 4, 5, 6");
        C.due("all panes", x.look(5, 2), 7);
        x.out(0, 4);
        C.due("through all six", Hand.shown(x, 5), "3, 5, 6");
    }

    private static void sourceOfWhatIsSeen() {
        C.part("12: WALL, KEY, COLUMN from which it comes");
        ThroughWindow x = Hand.walls(Hand.columns(2, 0, 4), Hand.row(0, 0, 19), Hand.row(2, 19, 5, 6, 7));
        sees(x, 0, "over wall 0; join 2 by 1; few 4 0 3 1 2;", "7 0 6 19 5");
        String[] due = {"2.19.3", "0.0.0", "2.19.2", "0.0.1", "2.19.1"};
        for (int j = 0; j < 5; j++) {
            C.due("column " + j, Hand.sourceOf(x, 0, 0, j), due[j]);
        }
        sees(x, 1, "over window 0; few 2;", "6");
        C.due("through two windows", Hand.sourceOf(x, 1, 0, 0), "2.19.2");
    }

    private static void sourceOfASum() {
        C.part("12: (of a sum none)");
        ThroughWindow x = Hand.walls(Hand.columns(2, 2), Hand.row(0, 1, 5), Hand.row(1, 5, 9));
        sees(x, 0, "over wall 0; sum 0 by 1;", "5 1");
        C.due("of the value", Hand.sourceOf(x, 0, 0, 0), "none");
        C.due("of the sum", Hand.sourceOf(x, 0, 0, 1), "none");
        sees(x, 1, "over window 0; join 1 by 0;", "5 1 9");
        C.due("of the value", Hand.sourceOf(x, 1, 0, 0), "none");
        C.due("of the sum", Hand.sourceOf(x, 1, 0, 1), "none");
        C.due("joined behind it", Hand.sourceOf(x, 1, 0, 2), "1.5.1");
        sees(x, 2, "over window 1; few 2 1;", "9 1");
        C.due("in front", Hand.sourceOf(x, 2, 0, 0), "1.5.1");
        C.due("of the sum", Hand.sourceOf(x, 2, 0, 1), "none");
    }

    private static void sourceNoneSuch() {
        C.part("12: NONE: none such");
        ThroughWindow x = fives();
        sees(x, 5, "over wall 0;", "1 5, 2 5, 3 9");
        for (int what : new int[] {-1, 3, 4, MIN, MAX}) {
            C.due("what " + what, x.source(5, 0, 0, what), -1);
        }
        for (int what = 0; what < 3; what++) {
            for (int window : new int[] {-1, 0, 4, 6, MIN, MAX}) {
                C.due("window " + window, x.source(window, 0, 0, what), -1);
            }
            for (int i : new int[] {-1, 3, MIN, MAX}) {
                C.due("row " + i, x.source(5, i, 0, what), -1);
            }
            for (int j : new int[] {-1, 2, 8, MIN, MAX}) {
                C.due("column " + j, x.source(5, 0, j, what), -1);
            }
        }
    }

    private static void lookAtAll() {
        C.part("13: ROWS .. COLUMNS, PANES (with those under it), the BASE, WALLS under it as bits");
        ThroughWindow x = Hand.walls(Hand.columns(2, 2, 2), Hand.row(2, 1, 1), Hand.row(0, 1, 1), Hand.row(1, 1, 1));
        Hand.tell(x, 0, "over wall 2; fill 0 1; fill 1 1;");
        Hand.tell(x, 1, "over window 0; join 0 by 1; join 2 by 1; fill 0 2;");
        Hand.tell(x, 2, "over window 1; few 0; join 1 by 0; sum 0 by 1; few 1; cut 0 more 3;");
        Hand.tell(x, 3, "over wall 1;");
        int[][] due = {{1, 2, 0, 2, 4}, {1, 4, 2, 2, 5}, {0, 1, 7, 2, 7}, {1, 2, 0, 1, 2}};
        for (int window = 0; window < 4; window++) {
            for (int what = 0; what < 5; what++) {
                C.due("look(" + window + ", " + what + ")", x.look(window, what), due[window][what]);
            }
        }
    }

    private static void lookNoneSuch() {
        C.part("13: NONE: none told, others");
        ThroughWindow x = fives();
        Hand.tell(x, 3, "over wall 0;");
        for (int what = 0; what < 5; what++) {
            for (int window : new int[] {-1, 0, 2, 4, 5, 6, MIN, MAX}) {
                C.due("look(" + window + ", " + what + ")", x.look(window, what), -1);
            }
        }
        for (int what : new int[] {-1, 5, 6, MIN, MAX}) {
            C.due("what " + what, x.look(3, what), -1);
        }
    }

    private static void draftEdges() {
        C.part("14: (COLUMN 0 to 7); false: others");
        ThroughWindow x = fives();
        for (int column : new int[] {-1, 8, 9, MIN, MAX}) {
            C.no("column " + column, x.draft(column, 1));
        }
        for (int value : new int[] {-1, 20, 199, MIN, MAX}) {
            C.no("value " + value, x.draft(0, value));
            C.no("value " + value, x.draft(7, value));
        }
        for (int column = 0; column < 8; column++) {
            C.yes("the least", x.draft(column, 0));
            C.yes("the greatest", x.draft(column, 19));
        }
        Hand.tell(x, 0, "over wall 0;");
        C.no("refused", x.draft(1, 20));
        C.due("as drafted, not as refused", x.put(0, 2, 0, 0, 0), 2);
        C.due("rows", Hand.held(x, 0), "1 5, 2 5, 3 9, 19 19");
    }

    private static void draftAtFirst() {
        C.part("14: DRAFT: 8 VALUES, 0 at first");
        ThroughWindow x = Hand.walls(Hand.columns(4, 4), Hand.row(1, 0, 0, 0, 0), Hand.row(0, 9, 9, 9, 9));
        C.due("eight columns", Hand.tell(x, 0, "over wall 0; join 1 by 0; few 0 1 2 3 4; join 1 by 0;"), 0);
        C.due("a row of zeros comes", x.put(0, 2, 0, 0, 0), 4);
        C.due("it is seen", Hand.shown(x, 0), "0 0 0 0 0 0 0 0");
        x.out(0, 0);
        C.yes("the last column", x.draft(7, 1));
        C.due("none such can come", x.put(0, 2, 0, 0, 0), -1);
        C.yes("as it was", x.draft(7, 0));
        C.due("it can", x.put(0, 2, 0, 0, 0), 4);
    }

    /** Told anew again and again: nothing of what a window was before stays. */
    private static void toldAnew() {
        C.part("9: A WINDOW that is told anew");
        ThroughWindow x = Hand.walls(Hand.columns(3, 2), Hand.row(0, 1, 5, 6), Hand.row(0, 2, 5, 7), Hand.row(1, 5, 9));
        x.draft(0, 4);
        for (int n = 0; n < 4; n++) {
            sees(x, 1, "over wall 0; cut 0 less 9; join 1 by 1; sum 2 by 1; fill 0 8; fill 2 9;", "5 13");
            sees(x, 0, "over wall 0; cut 0 less 9; join 1 by 1; sum 2 by 1; fill 0 8; fill 2 9;", "5 13");
            isTold(x, 1, 3, 3, 1);
            isTold(x, 0, 3, 3, 1);
            String second = n % 2 == 0 ? "over wall 0; few 1;" : "over window 0; few 0;";
            sees(x, 0, "over wall 0; few 1;", "5, 5");
            sees(x, 1, second, "5, 5");
            isTold(x, 0, 1, 1, 0);
            isTold(x, 1, 1 + n % 2, 1, 0);
            for (int window = 0; window < 2; window++) {
                C.due("no fill of what it was", Hand.wayOf(x, Hand.edit(window, 2, 0, 0, 0), 0), "3 3 0 0 -1 -1");
            }
            sees(x, 1, "over wall 1;", "5 9");
            isTold(x, 1, 0, 2, 0);
        }
    }

    private static void isTold(ThroughWindow x, int window, int panes, int walls, int whyDrop) {
        C.due("panes", x.look(window, 2), panes);
        C.due("walls", x.look(window, 4), walls);
        C.due("why a drop can't", x.why(window, 1, 0, 0, 0), whyDrop);
    }

    private static void fillTheLatest() {
        C.part("3: FILL: the latest told in this WINDOW, else in the one under it, 0 else");
        ThroughWindow x = Hand.walls(Hand.columns(4), Hand.row(0, 1, 1, 1, 1));
        x.draft(0, 6);
        Hand.tell(x, 0, "over wall 0; fill 0 19; fill 2 8; fill 2 7; fill 2 9; few 1;");
        Hand.tell(x, 1, "over window 0; fill 3 5;");
        Hand.tell(x, 2, "over window 1; fill 2 3; fill 0 4; cut 0 less 7;");
        Hand.tell(x, 3, "over wall 0; few 1; fill 0 0; fill 1 13;");
        String[] due = {"1 1 1 1, 19 6 9 0", "1 1 1 1, 19 6 9 5", "1 1 1 1, 4 6 3 5", "0 6 0 0, 1 1 1 1"};
        x.mark(0, false);
        for (int window = 0; window < 4; window++) {
            C.due("price", x.put(window, 2, 0, 0, 0), 4);
            C.due("by window " + window, Hand.held(x, 0), due[window]);
            x.mark(0, true);
        }
        Hand.tell(x, 3, "over wall 0; few 1 0;");
        x.draft(1, 8);
        x.put(3, 2, 0, 0, 0);
        C.due("told anew: fills are gone", Hand.held(x, 0), "1 1 1 1, 8 6 0 0");
    }
}
