/**
 * Puts one after the other, clerks, what a put carries, fits and cuts (promises 20 to 27): each sentence of
 * the document that names a boundary has a test of its own, which begins with that sentence.
 */
public final class GameEdgesTest {
    private static final Checks C = new Checks("GameEdgesTest");
    private static final int MIN = Hand.MIN;
    private static final int MAX = Hand.MAX;

    public static void main(String[] args) {
        twiceAsTheLastAlone();
        twiceInThatPlaceThen();
        twiceOneCanNot();
        twiceNoneAsOfWays();
        backAsTheyWere();
        backInTheSamePlace();
        backNoneAsOfWays();
        clashAnswers();
        clashPlaces();
        clashNoneAsOfWays();
        clashOfOneRowOfZeros();
        fitsOfACutOrNone();
        fitsInAnyOrder();
        fitsOfNoRows();
        fitsOfAsManyColumns();
        fitsNow();
        fitsNoneSuch();
        clerkEdges();
        clerkNone();
        clerkRefused();
        nightOfNoClerk();
        nightOfOneClerk();
        nightOfTwoClerks();
        nightOfThreeClerks();
        nightPassesOver();
        nightByPlacesAsTheyAreThen();
        nightOnlyAsks();
        carriedNoPut();
        carriedAlikeOnes();
        carriedOutOfSight();
        carriedThroughOtherWindows();
        carriedNow();
        carriedOfTheLatestPut();
        carriedNoneSuch();
        cutsInOrder();
        cutsOfNoneAndAll();
        cutsOfTenRows();
        cutsNoneSuch();
        cutsAndFitsSideBySide();
        C.end();
    }

    /** Rows 1 5, 2 5, 3 9 of wall 0; window 0 shows 5, 5, 9. */
    private static ThroughWindow fives() {
        ThroughWindow x = Hand.walls(Hand.columns(2), Hand.row(0, 1, 5), Hand.row(0, 2, 5), Hand.row(0, 3, 9));
        tell(x, 0, "over wall 0; few 1;");
        return x;
    }

    /** Rows 1 5, 3 9 of wall 0, whose column 1 is once; window 0 shows 5, 9. */
    private static ThroughWindow onceEach() {
        ThroughWindow x = Hand.walls(Hand.columns(2), Hand.row(0, 1, 5), Hand.row(0, 3, 9));
        C.yes("once", x.once(0, 1, true));
        tell(x, 0, "over wall 0; few 1;");
        return x;
    }

    private static void tell(ThroughWindow x, int window, String text) {
        C.due("window(" + window + ") of " + text, Hand.tell(x, window, text), 0);
    }

    private static void isAsItWas(ThroughWindow x, String rows) {
        C.due("the walls are as they were", Hand.held(x, 0), rows);
        C.due("no put was done", x.carried(0, 0), -1);
    }

    private static void twiceAsTheLastAlone() {
        C.part("20: leaves the WALLS as PUT of that to v alone: 1");
        ThroughWindow x = fives();
        C.due("9 to 10, to 11", x.twice(0, 2, 0, 10, 11), 1);
        C.due("the same twice", x.twice(0, 2, 0, 10, 10), 1);
        C.due("nothing, then 10", x.twice(0, 2, 0, 9, 10), 1);
        C.due("10, then as it was", x.twice(0, 2, 0, 10, 9), 1);
        C.due("nothing twice", x.twice(0, 0, 0, 5, 5), 1);
        isAsItWas(x, "1 5, 2 5, 3 9");
    }

    private static void twiceInThatPlaceThen() {
        C.part("20: in the ROW that is in that place then .. else .. 0");
        ThroughWindow x = fives();
        C.due("the other 5 is there then", x.twice(0, 0, 0, 7, 8), 0);
        C.due("the first 5, then 7, is there", x.twice(0, 1, 0, 7, 8), 1);
        C.due("9 to 0: a 5 is in the last place then", x.twice(0, 2, 0, 0, 11), 0);
        isAsItWas(x, "1 5, 2 5, 3 9");
    }

    private static void twiceOneCanNot() {
        C.part("20: else (one can't, too) 0");
        ThroughWindow x = onceEach();
        C.due("to u can't", x.twice(0, 1, 0, 20, 11), 0);
        C.due("to v can't", x.twice(0, 1, 0, 11, 20), 0);
        C.due("none can", x.twice(0, 1, 0, 199, 199), 0);
        C.due("to v alone can't", x.twice(0, 0, 0, 19, 9), 0);
        C.due("to v behind u can't: 9 is there then, and 19 is once", x.twice(0, 0, 0, 19, 19), 0);
        C.yes("span", x.span(0, 1, 5, 19));
        C.due("to u is barred", x.twice(0, 0, 0, 4, 6), 0);
        C.due("both can", x.twice(0, 0, 0, 7, 6), 1);
        isAsItWas(x, "1 5, 3 9");
    }

    private static void twiceNoneAsOfWays() {
        C.part("20: NONE: as of ways() for both");
        ThroughWindow x = fives();
        for (int v : new int[] {-1, 200, MIN, MAX}) {
            C.due("u " + v, x.twice(0, 2, 0, v, 10), -1);
            C.due("v " + v, x.twice(0, 2, 0, 10, v), -1);
        }
        for (int wrong : new int[] {-1, 3, 6, MIN, MAX}) {
            C.due("window " + wrong, x.twice(wrong, 2, 0, 10, 11), -1);
            C.due("row " + wrong, x.twice(0, wrong, 0, 10, 11), -1);
            C.due("column " + wrong, x.twice(0, 2, wrong, 10, 11), -1);
        }
        C.due("window 1 is not told", x.twice(1, 2, 0, 10, 11), -1);
        C.due("column 1", x.twice(0, 2, 1, 10, 11), -1);
        C.due("0 and 199 are values", x.twice(0, 2, 0, 0, 199), 0);
    }

    private static void backAsTheyWere() {
        C.part("21: leaves the WALLS as they were: 1, else 0");
        ThroughWindow x = fives();
        C.due("9 to 10 and back", x.back(0, 2, 0, 10), 1);
        C.due("as it is", x.back(0, 2, 0, 9), 1);
        C.due("9 to 6 and back", x.back(0, 2, 0, 6), 1);
        C.due("it can't", x.back(0, 2, 0, 20), 0);
        C.due("it can't", x.back(0, 2, 0, 199), 0);
        isAsItWas(x, "1 5, 2 5, 3 9");
        ThroughWindow y = Hand.walls(Hand.columns(2, 2), Hand.row(0, 4, 7), Hand.row(1, 1, 4));
        tell(y, 0, "over wall 1; join 0 by 1; few 0 2;");
        C.due("through a join", y.back(0, 0, 1, 9), 1);
        C.due("a key can't", y.back(0, 0, 0, 2), 0);
    }

    private static void backInTheSamePlace() {
        C.part("21: (in the ROW in the same place)");
        ThroughWindow x = fives();
        C.due("the other 5 is there then", x.back(0, 0, 0, 7), 0);
        C.due("the first 5, then 7, is there, but 5 is row 1", x.back(0, 1, 0, 7), 1);
        ThroughWindow y = onceEach();
        C.due("9 is there then, and becomes 5", y.back(0, 0, 0, 19), 0);
        C.due("9 to 0: 5 is there then, and becomes 9", y.back(0, 1, 0, 0), 0);
        isAsItWas(x, "1 5, 2 5, 3 9");
    }

    private static void backNoneAsOfWays() {
        C.part("21: NONE: as of ways()");
        ThroughWindow x = fives();
        for (int wrong : new int[] {-1, 3, 6, MIN, MAX}) {
            C.due("window " + wrong, x.back(wrong, 2, 0, 10), -1);
            C.due("row " + wrong, x.back(0, wrong, 0, 10), -1);
            C.due("column " + wrong, x.back(0, 2, wrong, 10), -1);
        }
        for (int v : new int[] {-1, 200, MIN, MAX}) {
            C.due("value " + v, x.back(0, 2, 0, v), -1);
        }
        C.due("window 1 is not told", x.back(1, 2, 0, 10), -1);
        C.due("column 1", x.back(0, 2, 1, 10), -1);
    }

    private static void clashAnswers() {
        C.part("22: 0 both can and the WALLS are alike; 1 .. not alike; 2 just A then B; 3 just B then A; 4 none");
        ThroughWindow x = fives();
        tell(x, 1, "over wall 0; cut 1 more 6;");
        C.due("alike", x.clash(0, 0, 7, 0, 16, 10), 0);
        C.due("one and the same change", x.clash(0, 16, 10, 0, 16, 10), 0);
        C.due("not alike", x.clash(0, 16, 10, 0, 16, 11), 1);
        C.due("just A then B", x.clash(1, 1, 12, 0, 16, 6), 2);
        C.due("just B then A", x.clash(0, 16, 6, 1, 1, 12), 3);
        C.due("A never can", x.clash(0, 0, 20, 0, 16, 10), 4);
        C.due("B never can", x.clash(0, 16, 10, 0, 0, 20), 4);
        C.due("not alike in a cut", x.clash(1, 1, 8, 1, 1, 7), 1);
        isAsItWas(x, "1 5, 2 5, 3 9");
        ThroughWindow y = Hand.walls(Hand.columns(3), Hand.row(0, 1, 9, 9));
        tell(y, 0, "over wall 0; cut 1 more 6;");
        tell(y, 1, "over wall 0; cut 2 more 6; few 1;");
        tell(y, 2, "over wall 0; cut 1 more 6; few 2;");
        C.due("both go out of the other's sight", y.clash(1, 0, 3, 2, 0, 3), 4);
    }

    private static void clashPlaces() {
        C.part("22: (place 8 * i + j)");
        ThroughWindow x = Hand.walls(Hand.columns(4, 4));
        for (int key = 0; key < 10; key++) {
            x.row(0, key, key, key, key);
            x.row(1, key, 1, 2, 3);
        }
        tell(x, 0, "over wall 0; join 1 by 0; few 0 1 2 3 4; join 1 by 0; few 0 7 6 5 4 3 2 1;");
        C.due("the last place: 79", x.clash(0, 79, 12, 0, 7, 11), 0);
        C.due("the first row's last column: 7", x.clash(0, 7, 12, 0, 7, 12), 0);
        C.due("the second row's first: 8, a key", x.clash(0, 8, 12, 0, 7, 11), 4);
        C.due("80", x.clash(0, 80, 12, 0, 7, 11), -1);
        C.due("80", x.clash(0, 7, 12, 0, 80, 11), -1);
        C.due("-1", x.clash(0, -1, 12, 0, 7, 11), -1);
        C.due("-1", x.clash(0, 7, 12, 0, -1, 11), -1);
        C.due("-8", x.clash(0, -8, 12, 0, 7, 11), -1);
        C.due("MIN", x.clash(0, MIN, 12, 0, 7, 11), -1);
        C.due("MAX", x.clash(0, MAX, 12, 0, 7, 11), -1);
        C.due("MIN", x.clash(0, 7, 12, 0, MIN, 11), -1);
        C.due("MAX", x.clash(0, 7, 12, 0, MAX, 11), -1);
    }

    private static void clashNoneAsOfWays() {
        C.part("22: NONE: one is none as of ways()");
        ThroughWindow x = fives();
        tell(x, 1, "over wall 0; cut 1 more 9;");
        for (int window : new int[] {-1, 2, 6, MIN, MAX}) {
            C.due("window a " + window, x.clash(window, 0, 7, 0, 0, 8), -1);
            C.due("window b " + window, x.clash(0, 0, 7, window, 0, 8), -1);
        }
        for (int v : new int[] {-1, 200, MIN, MAX}) {
            C.due("value v " + v, x.clash(0, 0, v, 0, 0, 8), -1);
            C.due("value w " + v, x.clash(0, 0, 7, 0, 0, v), -1);
        }
        C.due("row 3", x.clash(0, 24, 7, 0, 0, 8), -1);
        C.due("row 3", x.clash(0, 0, 7, 0, 24, 8), -1);
        C.due("column 1", x.clash(0, 1, 7, 0, 0, 8), -1);
        C.due("column 1", x.clash(0, 0, 7, 0, 1, 8), -1);
        C.due("no row is seen yet, though A would bring one", x.clash(0, 16, 10, 1, 1, 11), -1);
    }

    private static void clashOfOneRowOfZeros() {
        C.part("22, 25: both can, not alike .. how many different ends");
        ThroughWindow x = Hand.walls(Hand.columns(1, 3), Hand.row(0, 0), Hand.row(0, 1),
                Hand.row(1, 1, 0, 5), Hand.row(1, 2, 1, 5));
        C.yes("span", x.span(1, 1, 0, 1));
        C.yes("span", x.span(1, 2, 5, 6));
        tell(x, 0, "over wall 1; join 0 by 1; sum 0 by 2;");
        tell(x, 1, "over wall 1;");
        C.due("A: the row 0 goes", Hand.wayOf(x, Hand.edit(0, 0, 0, 1, 2), -1), "1 2 0 0 -1 -1");
        C.due("B: one value", Hand.wayOf(x, Hand.edit(1, 0, 0, 2, 6), -1), "1 1 1 1 2 6");
        C.due("behind B nothing is left for A: the row 0 stays", x.clash(0, 1, 2, 1, 2, 6), 1);
        C.yes("clerk", x.clerk(0, 0, 1, 2));
        C.yes("clerk", x.clerk(2, 1, 2, 6));
        night(x, 2, 2, 2, 2);
    }

    private static void fitsOfACutOrNone() {
        C.part("23: a cut or none");
        ThroughWindow x = Hand.walls(Hand.columns(1, 1), Hand.row(0, 5), Hand.row(1, 5), Hand.row(1, 7));
        tell(x, 0, "over wall 0;");
        C.due("none; less 6 to 199; is 5; more 0 to 4", x.fits(0, 0), 1 + 194 + 1 + 5);
        C.due("less 6, less 7; is 5", x.fits(0, 1), 3);
        tell(x, 1, "over wall 1;");
        C.due("none; less 8 to 199; more 0 to 4", x.fits(1, 1), 1 + 192 + 5);
        C.due("no 7 there", x.fits(1, 0), 0);
        tell(x, 2, "over wall 1; cut 0 more 6;");
        C.due("is 7; more 5, more 6", x.fits(2, 1), 3);
        x.row(1, 0, 0, 0, 0);
        tell(x, 3, "over wall 1; cut 0 is 0;");
        C.due("less 1 to 5; is 0", x.fits(3, 1), 6);
        x.row(1, 19, 0, 0, 0);
        tell(x, 3, "over wall 1; cut 0 is 19;");
        C.due("is 19; more 7 to 18", x.fits(3, 1), 13);
        tell(x, 3, "over wall 1; cut 0 is 5;");
        C.due("is 5 alone", x.fits(3, 1), 1);
    }

    private static void fitsInAnyOrder() {
        C.part("23: then a few of as many COLUMNS as it has, in any order");
        ThroughWindow x = Hand.walls(Hand.columns(2, 4), Hand.row(0, 5, 5), Hand.row(1, 5, 5, 6, 6));
        tell(x, 0, "over wall 0;");
        C.due("both orders, 1 + 400 cuts", x.fits(0, 0), 2 * 401);
        tell(x, 1, "over wall 0; few 1;");
        C.due("both columns", x.fits(1, 0), 2 * 401);
        C.due("two of four columns, both orders", x.fits(0, 1), 2 * 801);
        tell(x, 2, "over wall 1;");
        C.due("5 5 6 6 in four orders of 24", x.fits(2, 1), 4 * 801);
        tell(x, 3, "over wall 1; few 2 0 3;");
        C.due("6 5 6", x.fits(3, 1), 4 * 801);
        ThroughWindow y = Hand.walls(Hand.columns(3), Hand.row(0, 1, 2, 3), Hand.row(0, 2, 1, 3));
        tell(y, 0, "over wall 0; few 1;");
        C.due("1, 2 in two columns; none, and cuts of each column that leave both rows", y.fits(0, 0),
                2 * (1 + (197 + 1) + (197 + 1) + (196 + 1 + 3)));
    }

    private static void fitsOfNoRows() {
        C.part("23: a WINDOW that shows no ROWS");
        ThroughWindow x = Hand.walls(Hand.columns(4, 1), Hand.row(1, 19));
        int[] orders = {4, 12, 24, 24};
        String columns = "";
        for (int n = 0; n < 4; n++) {
            columns += " " + n;
            tell(x, n, "over wall 0; few" + columns + ";");
            C.due("none and each of 2,400 cuts, each few of " + (n + 1), x.fits(n, 0), 2401 * orders[n]);
        }
        C.due("cuts that leave nothing: less 0 to 19; is all but 19; more 19 to 199", x.fits(0, 1), 20 + 199 + 181);
        C.due("two columns of one", x.fits(1, 1), 0);
    }

    private static void fitsOfAsManyColumns() {
        C.part("23: as many COLUMNS as it has");
        ThroughWindow x = Hand.walls(Hand.columns(2, 3), Hand.row(0, 1, 2), Hand.row(1, 2, 2, 2));
        tell(x, 0, "over wall 0; join 1 by 1;");
        C.due("four of two columns", x.fits(0, 0), 0);
        C.due("four of three columns", x.fits(0, 1), 0);
        tell(x, 1, "over wall 0; join 1 by 1; few 1 2 3;");
        C.due("three of three columns", x.fits(1, 1), 6 * (1 + 3 * 200));
        tell(x, 2, "over wall 0; sum 0 by 1;");
        C.due("2 1 by columns 1 0", x.fits(2, 0), 1 + 200 + 200);
        x.row(0, 19, 2, 0, 0);
        C.due("2 20 by none", x.fits(2, 0), 0);
    }

    private static void fitsNow() {
        C.part("23: the VALUES that it shows now");
        ThroughWindow x = Hand.walls(Hand.columns(1, 1), Hand.row(0, 5), Hand.row(1, 5));
        tell(x, 0, "over wall 0;");
        C.due("now", x.fits(0, 1), 201);
        x.out(1, 5);
        C.due("not now", x.fits(0, 1), 0);
        x.out(0, 5);
        C.due("nothing now", x.fits(0, 1), 601);
        x.row(0, 5, 0, 0, 0);
        x.row(0, 6, 0, 0, 0);
        x.row(1, 5, 0, 0, 0);
        C.due("more rows than are there", x.fits(0, 1), 0);
    }

    private static void fitsNoneSuch() {
        C.part("23: NONE: no such WINDOW, WALL told");
        ThroughWindow x = fives();
        for (int wrong : new int[] {-1, 3, 6, MIN, MAX}) {
            C.due("window " + wrong, x.fits(wrong, 0), -1);
            C.due("wall " + wrong, x.fits(0, wrong), -1);
        }
        C.due("window 1 is not told", x.fits(1, 0), -1);
        C.due("wall 1 is not told", x.fits(0, 1), -1);
        C.due("wall 2 is not told", x.fits(0, 2), -1);
    }

    private static void clerkEdges() {
        C.part("24: place 8 * i + j, 0 to 79, VALUE 0 to 199; false: others, no such WINDOW told");
        ThroughWindow x = fives();
        for (int clerk : new int[] {-1, 3, 4, MIN, MAX}) {
            C.no("clerk " + clerk, x.clerk(clerk, 0, 0, 7));
            C.no("none for clerk " + clerk, x.clerk(clerk, -1, 0, 7));
        }
        for (int window : new int[] {-2, 1, 5, 6, MIN, MAX}) {
            C.no("window " + window, x.clerk(0, window, 0, 7));
        }
        for (int place : new int[] {-1, 80, 81, MIN, MAX}) {
            C.no("place " + place, x.clerk(0, 0, place, 7));
        }
        for (int v : new int[] {-1, 200, MIN, MAX}) {
            C.no("value " + v, x.clerk(0, 0, 0, v));
        }
        C.due("no clerk has a change", x.night(2), 0);
        for (int clerk = 0; clerk < 3; clerk++) {
            C.yes("the least", x.clerk(clerk, 0, 0, 0));
            C.yes("the greatest", x.clerk(clerk, 0, 79, 199));
        }
        C.due("three clerks have one", x.night(3), 6);
    }

    private static void clerkNone() {
        C.part("24: (window NONE: none)");
        ThroughWindow x = fives();
        C.yes("none, as it is", x.clerk(0, -1, 0, 0));
        C.yes("a change", x.clerk(0, 0, 0, 7));
        C.yes("a change", x.clerk(1, 0, 0, 8));
        C.due("two clerks have one", x.night(3), 2);
        C.yes("none", x.clerk(1, -1, 0, 0));
        C.due("one clerk has one", x.night(3), 1);
        C.due("it is put", x.night(2), 1);
        C.yes("none: no place, no value is asked for", x.clerk(0, -1, MIN, MAX));
        C.due("none is put", x.night(2), 0);
    }

    private static void clerkRefused() {
        C.part("24: a refused change leaves the one that was");
        ThroughWindow x = fives();
        C.yes("a change", x.clerk(0, 0, 0, 7));
        C.no("window 1 is not told", x.clerk(0, 1, 0, 20));
        C.no("place 80", x.clerk(0, 0, 80, 20));
        C.no("value 200", x.clerk(0, 0, 0, 200));
        C.due("it can be put", x.night(0), 1);
        C.yes("another", x.clerk(0, 0, 0, 20));
        C.due("that can't", x.night(0), 0);
    }

    private static void night(ThroughWindow x, int... due) {
        for (int what = 0; what < 4; what++) {
            C.due("night(" + what + ")", x.night(what), due[what]);
        }
        for (int what : new int[] {-1, 4, MIN, MAX}) {
            C.due("night(" + what + ")", x.night(what), -1);
        }
    }

    private static void nightOfNoClerk() {
        C.part("25: ORDERS: all rows of those CLERKS that have one (none has one)");
        night(new ThroughWindow(), 1, 1, 0, 1);
        night(fives(), 1, 1, 0, 1);
    }

    private static void nightOfOneClerk() {
        C.part("25: ORDERS: all rows of those CLERKS that have one (one has one)");
        for (int clerk = 0; clerk < 3; clerk++) {
            ThroughWindow x = fives();
            x.clerk(clerk, 0, 16, 10);
            night(x, 1, 1, 1, 1);
            x.clerk(clerk, 0, 16, 9);
            night(x, 1, 1, 1, 1);
            x.clerk(clerk, 0, 16, 20);
            night(x, 0, 0, 0, 1);
        }
    }

    private static void nightOfTwoClerks() {
        C.part("25: ORDERS: all rows of those CLERKS that have one (two have one)");
        int[][] pairs = {{0, 1}, {0, 2}, {1, 2}};
        for (int[] pair : pairs) {
            ThroughWindow x = fives();
            x.clerk(pair[0], 0, 16, 10);
            x.clerk(pair[1], 0, 0, 7);
            night(x, 2, 1, 2, 2);
            x.clerk(pair[1], 0, 16, 11);
            night(x, 2, 2, 2, 2);
            x.clerk(pair[1], 0, 16, 20);
            night(x, 0, 0, 1, 2);
            tell(x, 1, "over wall 0; cut 1 more 6;");
            x.clerk(pair[0], 0, 16, 6);
            x.clerk(pair[1], 1, 1, 12);
            night(x, 1, 1, 2, 2);
        }
    }

    private static void nightOfThreeClerks() {
        C.part("25: ORDERS: all rows of those CLERKS that have one (three have one)");
        ThroughWindow x = Hand.walls(Hand.columns(2), Hand.row(0, 1, 5), Hand.row(0, 2, 6), Hand.row(0, 3, 9));
        tell(x, 0, "over wall 0;");
        x.clerk(0, 0, 1, 10);
        x.clerk(1, 0, 9, 11);
        x.clerk(2, 0, 17, 12);
        night(x, 6, 1, 3, 6);
        x.clerk(1, 0, 1, 11);
        x.clerk(2, 0, 1, 12);
        night(x, 6, 3, 3, 6);
        x.clerk(2, 0, 0, 2);
        night(x, 0, 0, 2, 6);
        x.clerk(1, 0, 1, 20);
        night(x, 0, 0, 1, 6);
        x.clerk(0, 0, 25, 3);
        night(x, 0, 0, 0, 6);
    }

    private static void nightPassesOver() {
        C.part("25: passed over if it can't");
        ThroughWindow x = Hand.walls(Hand.columns(2), Hand.row(0, 1, 5), Hand.row(0, 2, 6));
        C.yes("once", x.once(0, 1, true));
        tell(x, 0, "over wall 0;");
        x.clerk(0, 0, 1, 6);
        x.clerk(1, 0, 9, 7);
        night(x, 1, 1, 2, 2);
        x.clerk(2, 0, 1, 5);
        night(x, 3, 2, 3, 6);
    }

    private static void nightByPlacesAsTheyAreThen() {
        C.part("25: (by places as they are then)");
        ThroughWindow x = fives();
        x.clerk(0, 0, 0, 19);
        x.clerk(1, 0, 0, 19);
        x.clerk(2, 0, 0, 19);
        night(x, 6, 1, 3, 6);
        x.clerk(0, 0, 0, 10);
        x.clerk(1, 0, 0, 11);
        x.clerk(2, 0, 0, 12);
        night(x, 6, 6, 3, 6);
        ThroughWindow y = Hand.walls(Hand.columns(2), Hand.row(0, 1, 5), Hand.row(0, 2, 6));
        tell(y, 0, "over wall 0; cut 1 less 7; few 1;");
        tell(y, 1, "over wall 0; cut 1 more 6; few 1;");
        tell(y, 2, "over wall 0; few 1;");
        y.clerk(0, 2, 8, 7);
        y.clerk(1, 1, 0, 9);
        night(y, 1, 1, 2, 2);
        tell(y, 1, "over wall 0; cut 1 more 5; few 1;");
        night(y, 2, 2, 2, 2);
    }

    private static void nightOnlyAsks() {
        C.part("25: from the WALLS as they are");
        ThroughWindow x = fives();
        x.clerk(0, 0, 0, 19);
        x.clerk(1, 0, 16, 18);
        for (int what = 0; what < 4; what++) {
            x.night(what);
        }
        isAsItWas(x, "1 5, 2 5, 3 9");
        x.out(0, 3);
        C.due("the place is no more", x.night(0), 0);
        x.row(0, 3, 9, 0, 0);
        C.due("the clerks have their changes still", x.night(0), 2);
    }

    private static void carried(ThroughWindow x, int window, int came, int went) {
        C.due("came, window " + window, x.carried(window, 0), came);
        C.due("went, window " + window, x.carried(window, 1), went);
    }

    private static void carriedNoPut() {
        C.part("26: NONE: .. no PUT");
        ThroughWindow x = fives();
        carried(x, 0, -1, -1);
        x.put(0, 0, 0, 0, 20);
        carried(x, 0, -1, -1);
        x.twice(0, 2, 0, 10, 11);
        x.back(0, 2, 0, 10);
        x.clash(0, 0, 7, 0, 16, 10);
        x.clerk(0, 0, 0, 7);
        x.night(0);
        x.row(0, 7, 7, 0, 0);
        x.mark(0, false);
        x.mark(0, true);
        carried(x, 0, -1, -1);
        C.due("a put of nothing is one", x.put(0, 0, 0, 0, 5), 0);
        carried(x, 0, 0, 0);
    }

    private static void carriedAlikeOnes() {
        C.part("26: (alike ones counted)");
        ThroughWindow x = Hand.walls(Hand.columns(2, 2), Hand.row(0, 1, 4), Hand.row(0, 2, 4), Hand.row(0, 3, 4),
                Hand.row(0, 5, 6), Hand.row(1, 4, 8), Hand.row(1, 6, 8));
        tell(x, 0, "over wall 0; join 1 by 1; few 2;");
        tell(x, 1, "over wall 1;");
        C.due("8, 8, 8, 8", Hand.shown(x, 0), "8, 8, 8, 8");
        C.due("put", x.put(1, 0, 0, 1, 9), 1);
        carried(x, 0, 3, 3);
        carried(x, 1, 1, 1);
        C.due("8, 9, 9, 9", Hand.shown(x, 0), "8, 9, 9, 9");
        C.due("put", x.put(1, 0, 1, 1, 9), 1);
        carried(x, 0, 1, 1);
        C.due("put", x.put(0, 1, 0, 0, 0), 1);
        carried(x, 0, 0, 1);
        x.draft(0, 9);
        C.due("put of one that comes back", x.put(0, 2, 0, 0, 0), 1);
        carried(x, 0, 1, 0);
    }

    private static void carriedOutOfSight() {
        C.part("26: how many WENT, out of sight");
        ThroughWindow x = Hand.walls(Hand.columns(2), Hand.row(0, 1, 5), Hand.row(0, 2, 5));
        tell(x, 0, "over wall 0; few 1; cut 0 less 6;");
        tell(x, 1, "over wall 0;");
        C.due("5 to 9", x.put(1, 0, 0, 1, 9), 1);
        carried(x, 0, 0, 1);
        C.due("5 to 9", x.put(1, 0, 1, 1, 9), 1);
        carried(x, 0, 0, 1);
        C.due("9 to 5", x.put(1, 0, 1, 1, 5), 1);
        carried(x, 0, 1, 0);
    }

    private static void carriedThroughOtherWindows() {
        C.part("26: SEEN through a WINDOW (as it is now)");
        ThroughWindow x = fives();
        tell(x, 1, "over wall 0; cut 1 more 8;");
        tell(x, 2, "over wall 0; cut 1 less 9; sum 0 by 1;");
        C.due("put", x.put(1, 1, 0, 0, 0), 1);
        C.due("9 to 0", Hand.held(x, 0), "1 5, 2 5, 3 0");
        carried(x, 0, 1, 1);
        carried(x, 1, 0, 1);
        carried(x, 2, 1, 0);
        tell(x, 1, "over wall 0; cut 1 less 1;");
        carried(x, 1, 1, 0);
        tell(x, 5, "over window 0; cut 0 is 5;");
        carried(x, 5, 0, 0);
    }

    private static void carriedNow() {
        C.part("26: now and were not ahead of it");
        ThroughWindow x = fives();
        C.due("put", x.put(0, 0, 2, 0, 10), 1);
        carried(x, 0, 1, 1);
        x.row(0, 4, 11, 0, 0);
        carried(x, 0, 2, 1);
        x.out(0, 1);
        carried(x, 0, 2, 2);
        x.out(0, 4);
        x.out(0, 3);
        carried(x, 0, 0, 2);
        x.wall(1, 1);
        x.row(1, 5, 0, 0, 0);
        tell(x, 1, "over wall 1;");
        carried(x, 1, 1, 0);
        tell(x, 2, "over wall 0; join 1 by 1;");
        carried(x, 2, 1, 0);
    }

    private static void carriedOfTheLatestPut() {
        C.part("26: by the latest PUT");
        ThroughWindow x = fives();
        C.due("put", x.put(0, 0, 2, 0, 10), 1);
        C.due("put", x.put(0, 0, 2, 0, 11), 1);
        carried(x, 0, 1, 1);
        C.due("9 to 10 is not counted", x.put(0, 1, 0, 0, 0), 2);
        carried(x, 0, 0, 1);
        C.due("one that can't is none", x.put(0, 0, 0, 0, 20), -1);
        carried(x, 0, 0, 1);
        C.due("one that is none is none", x.put(0, 0, 9, 0, 5), -1);
        carried(x, 0, 0, 1);
        C.due("nothing", x.put(0, 0, 0, 0, 5), 0);
        carried(x, 0, 0, 0);
    }

    private static void carriedNoneSuch() {
        C.part("26: NONE: no such WINDOW told .. others");
        ThroughWindow x = fives();
        C.due("put", x.put(0, 0, 2, 0, 10), 1);
        for (int window : new int[] {-1, 1, 5, 6, MIN, MAX}) {
            carried(x, window, -1, -1);
        }
        for (int what : new int[] {-1, 2, 3, MIN, MAX}) {
            C.due("what " + what, x.carried(0, what), -1);
        }
    }

    private static void cuts(ThroughWindow x, int set, int... due) {
        for (int what = 0; what < 4; what++) {
            C.due("cuts(0, " + set + ", " + what + ")", x.cuts(0, set, what), due[what]);
        }
    }

    private static void cutsInOrder() {
        C.part("27: by C, then less, is, more, then N; a set as bits, by KEYS from the least on");
        ThroughWindow x = Hand.walls(Hand.columns(3), Hand.row(0, 19, 4, 7), Hand.row(0, 0, 4, 2), Hand.row(0, 10, 9, 7));
        cuts(x, 1, 10 + 1 + 5 + 1, 0, 0, 1);
        cuts(x, 2, 1 + 1 + 5, 0, 1, 10);
        cuts(x, 4, 1 + 9, 0, 1, 19);
        cuts(x, 3, 9, 0, 0, 11);
        cuts(x, 5, 5 + 1, 1, 0, 5);
        cuts(x, 6, 10 + 1 + 5, 0, 2, 0);
        cuts(x, 7, 180 + 190 + 4 + 192 + 2, 0, 0, 20);
        ThroughWindow y = Hand.walls(Hand.columns(2), Hand.row(0, 1, 5), Hand.row(0, 2, 9), Hand.row(0, 3, 5));
        cuts(y, 5, 4 + 1, 1, 0, 6);
        ThroughWindow z = Hand.walls(Hand.columns(2), Hand.row(0, 1, 5), Hand.row(0, 2, 9), Hand.row(0, 3, 1),
                Hand.row(0, 4, 5));
        cuts(z, 9, 1, 1, 1, 5);
        cuts(z, 11, 4, 1, 2, 1);
    }

    private static void cutsOfNoneAndAll() {
        C.part("27: just none, just all of its ROWS");
        ThroughWindow x = Hand.walls(Hand.columns(1));
        cuts(x, 0, 600, 0, 0, 0);
        x.row(0, 5, 0, 0, 0);
        cuts(x, 0, 6 + 199 + 195, 0, 0, 0);
        cuts(x, 1, 194 + 1 + 5, 0, 0, 6);
        ThroughWindow y = Hand.walls(Hand.columns(2), Hand.row(0, 0, 0), Hand.row(0, 1, 19), Hand.row(0, 2, 10));
        cuts(y, 7, 197 + 180, 0, 0, 3);
        cuts(y, 5, 9, 1, 0, 11);
        ThroughWindow z = Hand.walls(Hand.columns(2), Hand.row(0, 0, 3), Hand.row(0, 1, 5), Hand.row(0, 2, 3),
                Hand.row(0, 3, 5));
        cuts(z, 6, 0, -1, -1, -1);
    }

    private static void cutsOfTenRows() {
        C.part("27: a set of 10 ROWS");
        ThroughWindow x = Hand.walls(Hand.columns(1));
        for (int key = 10; key < 20; key++) {
            x.row(0, key, 0, 0, 0);
        }
        cuts(x, 1023, 180 + 10, 0, 0, 20);
        cuts(x, 1, 2, 0, 0, 11);
        cuts(x, 512, 2, 0, 1, 19);
        cuts(x, 511, 1, 0, 0, 19);
        cuts(x, 1022, 1, 0, 2, 10);
        cuts(x, 1021, 0, -1, -1, -1);
        cuts(x, 1024, -1, -1, -1, -1);
    }

    private static void cutsAndFitsSideBySide() {
        C.part("23, 27: the WALLS side by side");
        ThroughWindow x = Hand.walls(Hand.columns(1, 1, 1));
        for (int wall = 0; wall < 3; wall++) {
            x.row(wall, 0, 0, 0, 0);
            x.row(wall, 19, 0, 0, 0);
            tell(x, wall, "over wall " + wall + ";");
        }
        for (int wall = 0; wall < 3; wall++) {
            C.due("both rows: less 20 to 199", x.cuts(wall, 3, 0), 180);
            C.due("the first: less 1 to 19, is 0", x.cuts(wall, 1, 0), 20);
            C.due("the second: is 19, more 0 to 18", x.cuts(wall, 2, 0), 20);
            C.due("no row: less 0, is all but two, more 19 to 199", x.cuts(wall, 0, 0), 1 + 198 + 181);
            for (int window = 0; window < 3; window++) {
                C.due("none; less 20 to 199", x.fits(window, wall), 181);
            }
        }
    }

    private static void cutsNoneSuch() {
        C.part("27: NONE: no such WALL, set, what; none (1 to 3)");
        ThroughWindow x = fives();
        for (int wall : new int[] {-1, 1, 3, MIN, MAX}) {
            C.due("wall " + wall, x.cuts(wall, 0, 0), -1);
        }
        for (int set : new int[] {-1, 8, 9, 1 << 20, MIN, MAX}) {
            cuts(x, set, -1, -1, -1, -1);
        }
        for (int what : new int[] {-1, 4, MIN, MAX}) {
            C.due("what " + what, x.cuts(0, 3, what), -1);
        }
        cuts(x, 5, 0, -1, -1, -1);
    }
}
