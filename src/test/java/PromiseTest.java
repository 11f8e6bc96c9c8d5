/** Each promise of the document by itself: ordinary inputs, edges and wrong inputs, worked out by hand. */
public final class PromiseTest {
    private static final Checks C = new Checks("PromiseTest");
    private static final int MIN = Hand.MIN;
    private static final int MAX = Hand.MAX;

    public static void main(String[] args) {
        newObject();
        wall();
        row();
        out();
        span();
        names();
        once();
        feed();
        windowFaults();
        windowNumbers();
        value();
        seen();
        seenInOrder();
        source();
        look();
        draft();
        waysOfChange();
        waysOfDropAndAdd();
        waysBehindJoin();
        waysBehindSum();
        waysAsItIs();
        waysWrong();
        why();
        barred();
        put();
        twiceAndBack();
        clash();
        fits();
        clerkAndNight();
        carried();
        cuts();
        moves();
        mark();
        count();
        C.end();
    }

    /** A wall of two columns with rows 1 5, 2 5, 3 9, and window 0 that shows the second: 5, 5, 9. */
    private static ThroughWindow fives() {
        ThroughWindow x = new ThroughWindow();
        x.wall(0, 2);
        x.row(0, 1, 5, 0, 0);
        x.row(0, 2, 5, 0, 0);
        x.row(0, 3, 9, 0, 0);
        Hand.tell(x, 0, "over wall 0; few 1;");
        return x;
    }

    /** Rows 0 1 and 1 2 of wall 0 name rows 1 7 and 2 8 of wall 1; window 0 shows 0 7, 1 8. */
    private static ThroughWindow joined() {
        ThroughWindow x = new ThroughWindow();
        x.wall(0, 2);
        x.wall(1, 2);
        x.row(1, 1, 7, 0, 0);
        x.row(1, 2, 8, 0, 0);
        x.row(0, 0, 1, 0, 0);
        x.row(0, 1, 2, 0, 0);
        x.names(0, 1, 1);
        Hand.tell(x, 0, "over wall 0; join 1 by 1; few 0 2;");
        return x;
    }

    /** Rows 0 1 3, 1 1 4, 2 2 5; window 0 shows the sums 1 7, 2 5. */
    private static ThroughWindow summed(String fills) {
        ThroughWindow x = new ThroughWindow();
        x.wall(0, 3);
        x.row(0, 0, 1, 3, 0);
        x.row(0, 1, 1, 4, 0);
        x.row(0, 2, 2, 5, 0);
        C.due("sum window", Hand.tell(x, 0, "over wall 0; sum 2 by 1;" + fills), 0);
        return x;
    }

    private static void newObject() {
        C.part("1 a new object");
        ThroughWindow x = new ThroughWindow();
        for (int what = 0; what < 3; what++) {
            C.due("count", x.count(what), -1);
        }
        for (int what = 3; what < 6; what++) {
            C.due("count", x.count(what), 0);
        }
        for (int w = -1; w < 7; w++) {
            C.due("look", x.look(w, 0), -1);
            C.due("seen", x.seen(w, 0, 0), -1);
            C.due("ways", x.ways(w, 2, 0, 0, 0), -1);
            C.due("carried", x.carried(w, 0), -1);
            C.no("mark back", x.mark(w, true));
            C.due("fits", x.fits(w, 0), -1);
        }
    }

    private static void wall() {
        C.part("2 wall");
        ThroughWindow x = new ThroughWindow();
        for (int columns : new int[] {0, 5, -1, MIN, MAX}) {
            C.no("wall(0, " + columns + ")", x.wall(0, columns));
        }
        for (int w : new int[] {-1, 3, MIN, MAX}) {
            C.no("wall(" + w + ", 2)", x.wall(w, 2));
        }
        C.due("count(0)", x.count(0), -1);
        C.yes("wall(0, 1)", x.wall(0, 1));
        C.yes("wall(2, 4)", x.wall(2, 4));
        C.no("told already", x.wall(0, 1));
        C.no("told already, other columns", x.wall(2, 3));
        C.due("count(0)", x.count(0), 0);
        C.due("count(1)", x.count(1), -1);
    }

    private static void row() {
        C.part("3 row");
        ThroughWindow x = new ThroughWindow();
        C.no("no wall", x.row(0, 0, 0, 0, 0));
        x.wall(0, 2);
        x.wall(1, 4);
        C.no("no such wall", x.row(3, 0, 0, 0, 0));
        C.no("no such wall", x.row(-1, 0, 0, 0, 0));
        C.yes("values not asked for", x.row(0, 0, 19, MIN, MAX));
        C.yes("greatest key", x.row(0, 19, 0, -1, 20));
        C.no("key 20", x.row(0, 20, 0, 0, 0));
        C.no("key -1", x.row(0, -1, 0, 0, 0));
        C.no("value 20", x.row(0, 1, 20, 0, 0));
        C.no("value -1", x.row(0, 1, -1, 0, 0));
        C.no("last value 20", x.row(1, 1, 0, 0, 20));
        C.yes("all four", x.row(1, 1, 2, 3, 4));
        C.due("its last", Hand.valueOf(x, 1, 1, 3), 4);
        C.no("key is there", x.row(0, 19, 5, 0, 0));
        C.due("it stays", Hand.valueOf(x, 0, 19, 1), 0);
        for (int key = 1; key < 9; key++) {
            C.yes("row " + key, x.row(0, key, key, 0, 0));
        }
        C.no("an eleventh", x.row(0, 10, 1, 0, 0));
        C.due("count", x.count(0), 10);
        ThroughWindow y = fives();
        C.yes("span", y.span(0, 1, 5, 9));
        C.no("outside the span", y.row(0, 4, 4, 0, 0));
        C.yes("inside", y.row(0, 4, 6, 0, 0));
        C.yes("span of the key", y.span(0, 0, 0, 10));
        C.no("key outside", y.row(0, 11, 6, 0, 0));
        C.due("nothing came", y.count(0), 4);
    }

    private static void out() {
        C.part("4 out");
        ThroughWindow x = joined();
        C.no("no wall", x.out(2, 0));
        C.no("no wall", x.out(-1, 0));
        C.no("no such key", x.out(0, 9));
        C.no("no such key", x.out(0, MIN));
        C.no("it is named", x.out(1, 1));
        C.due("it stays", Hand.valueOf(x, 1, 1, 1), 7);
        C.yes("its namer", x.out(0, 0));
        C.yes("named no more", x.out(1, 1));
        C.no("gone already", x.out(1, 1));
        C.due("count", x.count(1), 1);
    }

    private static void span() {
        C.part("5 span");
        ThroughWindow x = fives();
        C.no("no wall", x.span(1, 0, 0, 19));
        C.no("no column", x.span(0, 2, 0, 19));
        C.no("no column", x.span(0, -1, 0, 19));
        C.no("from above to", x.span(0, 1, 10, 9));
        C.no("from below 0", x.span(0, 1, -1, 19));
        C.no("to above 19", x.span(0, 1, 0, 20));
        C.no("5 is outside", x.span(0, 1, 6, 19));
        C.no("9 is outside", x.span(0, 1, 0, 8));
        C.yes("row: span is as it was", x.row(0, 4, 19, 0, 0));
        C.yes("out", x.out(0, 4));
        C.yes("just inside", x.span(0, 1, 5, 9));
        C.no("row outside", x.row(0, 4, 10, 0, 0));
        C.no("key outside", x.span(0, 0, 2, 3));
        C.yes("of the key", x.span(0, 0, 1, 3));
        C.no("row outside", x.row(0, 0, 5, 0, 0));
        C.yes("wider again", x.span(0, 0, 0, 19));
        C.yes("row", x.row(0, 0, 5, 0, 0));
        C.no("one value alone", x.span(0, 1, 5, 5));
    }

    private static void names() {
        C.part("6 names");
        ThroughWindow x = joined();
        C.no("its own wall", x.names(0, 1, 0));
        C.no("the key", x.names(0, 0, 1));
        C.no("the key, none", x.names(0, 0, -1));
        C.no("not told", x.names(0, 1, 2));
        C.no("no such wall", x.names(0, 1, 3));
        C.no("no such wall", x.names(0, 1, -2));
        C.no("no column", x.names(0, 2, 1));
        C.no("no wall", x.names(2, 1, 0));
        C.no("row that names none", x.row(0, 5, 3, 0, 0));
        C.yes("row that names one", x.row(0, 5, 2, 0, 0));
        C.yes("none", x.names(0, 1, -1));
        C.yes("row that names none", x.row(0, 6, 3, 0, 0));
        C.no("not lawful", x.names(0, 1, 1));
        C.yes("it is as it was", x.row(0, 7, 4, 0, 0));
        x.wall(2, 1);
        C.no("no rows there", x.names(0, 1, 2));
        x.out(0, 6);
        x.out(0, 7);
        C.yes("lawful again", x.names(0, 1, 1));
        C.no("not lawful: stays", x.names(0, 1, 2));
        C.no("it names the first still", x.row(0, 6, 3, 0, 0));
    }

    private static void once() {
        C.part("7 once");
        ThroughWindow x = fives();
        C.no("the key", x.once(0, 0, true));
        C.no("the key", x.once(0, 0, false));
        C.no("no column", x.once(0, 2, true));
        C.no("no wall", x.once(1, 1, true));
        C.no("5 is there twice", x.once(0, 1, true));
        C.yes("it is as it was", x.row(0, 4, 9, 0, 0));
        C.yes("not once", x.once(0, 1, false));
        x.out(0, 4);
        x.out(0, 2);
        C.yes("once", x.once(0, 1, true));
        C.no("9 again", x.row(0, 4, 9, 0, 0));
        C.yes("not once", x.once(0, 1, false));
        C.yes("9 again", x.row(0, 4, 9, 0, 0));
    }

    private static void feed() {
        C.part("8 feed");
        ThroughWindow x = new ThroughWindow();
        C.due("nothing", x.feed(0, 0, 0), 0);
        C.due("127, 128, 255, 9, 11, 31", x.feed(0x7f80ff090b1f0000L, -1L, Long.MIN_VALUE), 0);
        C.due("10, 32, 126", x.feed(0x0a207e0000000000L, 0, 0), 3);
        C.due("24 signs", x.feed(0x2020202020202020L, 0x2020202020202020L, 0x2020202020202020L), 27);
        C.due("the last byte", x.feed(0, 0, 0x41), 28);
        C.due("count", x.count(4), 28);
        for (int n = 0; n < 40; n++) {
            C.due("more", x.feed(0x2020202020202020L, 0x2020202020202020L, 0x2020202020202020L), 28 + 24 * (n + 1));
        }
        C.due("just a thousand", x.feed(0x2020202020202020L, 0x2020202000000000L, 0), 1000);
        C.due("no more", x.feed(0x41L, 0, 0), 1000);
        C.due("window: a sign that is none", x.window(0), 1 + 16 * 2);
        C.due("taken", x.count(4), 0);
        ThroughWindow y = new ThroughWindow();
        y.wall(0, 2);
        C.due("highest byte first", Hand.feed(y, "over wall 0 ;few 1 0;"), 21);
        C.due("window", y.window(0), 0);
        StringBuilder b = new StringBuilder("over wall 0;");
        while (b.length() < 1000) {
            b.append(' ');
        }
        C.due("what is beyond is left out", Hand.feed(y, b + "~~~~"), 1000);
        C.due("window", y.window(0), 0);
    }

    /** An @ stands where the fault is. */
    private static void fault(ThroughWindow x, int window, String text, int kind) {
        int place = text.indexOf('@');
        C.due("window(" + window + ") of " + text, Hand.tell(x, window, text.replace("@", "")), kind + 16 * place);
        C.due("the tape is taken", x.count(4), 0);
    }

    private static void windowFaults() {
        C.part("9 window: faults");
        ThroughWindow x = new ThroughWindow();
        x.wall(0, 4);
        x.wall(1, 3);
        x.wall(2, 1);
        C.due("told", Hand.tell(x, 0, "over wall 1;"), 0);
        String[] misplaced = {"@", "   @", "@;", "@0", "@wall 0;", "@overwall 0;", "over@", "over @0;", "over @walls 0;",
            "over wall @;", "over wall @one;", "over wall 0@", "over wall 0 @cut 0 is 1;", "over wall 0; @;",
            "over wall 0; @over wall 0;", "over wall 0; cut @;", "over wall 0; cut 0 @;", "over wall 0; cut 0 @3;",
            "over wall 0; cut 0 @equals 3;", "over wall 0; cut 0 less @;", "over wall 0; cut 0 less 3@",
            "over wall 0; cut 0 less 3 @4;", "over wall 0; few@;", "over wall 0; few 1 @by;", "over wall 0; few 1@",
            "over wall 0; join @by 1;", "over wall 0; join 1 @1;", "over wall 0; join 1 by @;",
            "over wall 0; join 1 by 1 @1;", "over wall 0; sum 1 @2;", "over wall 0; sum @by 2;",
            "over wall 0; sum 1 by @;", "over wall 0; sum 1 by 2 @3;", "over wall 0; fill @;", "over wall 0; fill 1 @;",
            "over wall 0; fill 1 1 @1;", "over wall 0; @Cut 0 is 1;", "over wall 0; @=;", "over wall 0; cut @1000 is 1;",
            "over wall 0; cut @0000 is 1;", "over wall 0; @cutcutcut 0 is 1;", "over wall @-1;", "over @wal l 0;",
            "over wall 0;\n\n @x", "over wall 0; cut 1 is @;9", "over wall 0; cut 1 @i s 1;"};
        for (String text : misplaced) {
            fault(x, 1, text, 1);
        }
        ThroughWindow y = new ThroughWindow();
        y.wall(1, 3);
        fault(y, 3, "over wall @0;", 2);
        fault(y, 3, "over wall @2 nonsense", 2);
        fault(y, 3, "over window @2;", 2);
        fault(y, 3, "over wall 1; join @0 by 9;", 2);
        fault(x, 1, "over wall 0; few 1 @1;", 3);
        fault(x, 1, "over wall 0; few 0 1 2 3 @0;", 3);
        fault(x, 1, "over wall 0; sum 1 by @1;", 3);
        fault(x, 1, "over wall @3;", 4);
        fault(x, 1, "over wall @999;", 4);
        fault(x, 1, "over window @1;", 4);
        fault(x, 0, "over window @0;", 4);
        fault(x, 1, "over wall 0; cut @4 is 1;", 4);
        fault(x, 1, "over wall 0; cut 3 is @200;", 4);
        fault(x, 1, "over wall 0; few 0 @4;", 4);
        fault(x, 1, "over wall 0; join @3 by 0;", 4);
        fault(x, 1, "over wall 0; join 1 by @4;", 4);
        fault(x, 1, "over wall 0; sum @4 by 0;", 4);
        fault(x, 1, "over wall 0; sum 0 by @4;", 4);
        fault(x, 1, "over wall 0; fill @4 0;", 4);
        fault(x, 1, "over wall 0; fill 0 @20;", 4);
        fault(x, 1, "over wall 0; sum 1 by 2; cut @2 is 1;", 4);
        fault(x, 1, "over wall 0; few 1 2; few @2;", 4);
        fault(x, 1, "over window 0; fill @3 1;", 4);
        fault(x, 1, "over window 0; cut @3 is 1;", 4);
        String cut = "cut 0 is 1;";
        String six = cut.repeat(6);
        for (String word : new String[] {"cut", "few", "join", "sum"}) {
            fault(x, 1, "over wall 0; " + six + "@" + word, 5);
        }
        fault(x, 1, "over wall 0; " + six + "@over", 1);
        fault(x, 1, "over wall 0; join 0 by 0; join @1 by 0;", 5);
        fault(x, 1, "over wall 1; join 0 by 0; join @0 by 9;", 5);
        ThroughWindow z = new ThroughWindow();
        z.wall(0, 4);
        z.wall(1, 3);
        String eight = "over wall 0; join 0 by 0; few 0 1 2 3 4; join 0 by 0; few 7 6 5 4 3 2 1 0 ";
        fault(z, 1, eight + "@0;", 3);
        fault(z, 1, eight + "@8;", 4);
        fault(z, 1, eight + "@few", 1);
        fault(z, 1, eight + "@", 1);
        fault(z, 1, eight + "; join @1 by 0;", 5);
        C.due("eight columns", Hand.tell(z, 1, eight + ";"), 0);
        C.due("faults leave the window", x.look(1, 0), -1);
        C.due("a fault leaves the one told", x.look(0, 1), 3);
    }

    private static void windowNumbers() {
        C.part("9 window");
        ThroughWindow x = new ThroughWindow();
        x.wall(0, 4);
        x.wall(1, 4);
        x.wall(2, 1);
        for (int w : new int[] {-1, 6, MIN, MAX}) {
            C.due("no such number", Hand.tell(x, w, "over wall 0;"), -1);
            C.due("the tape is empty", x.count(4), 0);
        }
        String cut = "cut 0 less 199;";
        C.due("six panes and fills", Hand.tell(x, 0, "over wall 0;" + cut.repeat(6) + "fill 0 19;fill 3 0;"), 0);
        C.due("panes", x.look(0, 2), 6);
        C.due("six more over it", Hand.tell(x, 1, "over window 0;" + cut.repeat(6)), 0);
        C.due("panes with those under it", x.look(1, 2), 12);
        C.due("without blanks", Hand.tell(x, 2, "over wall 0;join 1by 0;few 6 0;sum 0by 1;cut 000is 019;"), 0);
        C.due("eight columns", Hand.tell(x, 3, "over wall 0;join 1 by 0;few 0 1 2 3 4;join 1 by 0;join 2 by 7;"), 0);
        C.due("columns", x.look(3, 1), 8);
        C.due("lines", Hand.tell(x, 4, "\nover\nwall\n1\n;\n"), 0);
        C.due("told", x.count(3), 5);
        C.due("another one is over it", Hand.tell(x, 0, "over wall 1;"), -1);
        C.due("the tape is empty", x.count(4), 0);
        C.due("another one is over it: faults are not asked", Hand.tell(x, 0, "nonsense"), -1);
        C.due("the upper one told anew", Hand.tell(x, 1, "over wall 1;"), 0);
        C.due("free now", Hand.tell(x, 0, "over wall 1;"), 0);
        C.due("base", x.look(0, 3), 1);
        C.due("a fault leaves it", Hand.tell(x, 0, "over wall 0; cut"), 1 + 16 * 16);
        C.due("base", x.look(0, 3), 1);
        C.due("told", x.count(3), 5);
    }

    private static void value() {
        C.part("10 value");
        ThroughWindow x = fives();
        C.due("key", Hand.valueOf(x, 0, 3, 0), 3);
        C.due("value", Hand.valueOf(x, 0, 3, 1), 9);
        int[][] none = {{1, 3, 0}, {-1, 3, 0}, {3, 3, 0}, {0, 4, 0}, {0, -1, 0}, {0, 20, 0}, {0, MAX, 0}, {0, 3, 2},
            {0, 3, -1}, {0, 3, MIN}};
        for (int[] n : none) {
            C.due("none such", Hand.valueOf(x, n[0], n[1], n[2]), Hand.THROWN);
        }
    }

    private static void seen() {
        C.part("11 seen");
        ThroughWindow x = fives();
        C.due("first", x.seen(0, 0, 0), 5);
        C.due("second", x.seen(0, 1, 0), 5);
        C.due("last", x.seen(0, 2, 0), 9);
        int[][] none = {{1, 0, 0}, {-1, 0, 0}, {6, 0, 0}, {0, 3, 0}, {0, -1, 0}, {0, 0, 1}, {0, 0, -1}, {0, MAX, MIN}};
        for (int[] n : none) {
            C.due("none such", x.seen(n[0], n[1], n[2]), -1);
        }
        String[] cuts = {"cut 1 less 9;", "cut 1 is 9;", "cut 1 more 5;", "cut 1 more 9;", "cut 0 less 199;"};
        int[] rows = {2, 1, 1, 0, 3};
        for (int n = 0; n < cuts.length; n++) {
            C.due("window", Hand.tell(x, 1, "over wall 0;" + cuts[n]), 0);
            C.due(cuts[n], x.look(1, 0), rows[n]);
        }
        C.due("window", Hand.tell(x, 2, "over wall 0; join 0 by 1;"), 0);
        C.due("joined to no row", x.look(2, 0), 0);
        x.row(0, 5, 3, 0, 0);
        C.due("1 5 3 and 2 5 3; 5 3 9", x.look(2, 0), 3);
        C.due("its value", x.seen(2, 1, 2), 3);
        C.due("its value", x.seen(2, 2, 2), 9);
        ThroughWindow y = summed("");
        C.due("sum of 1", y.seen(0, 0, 1), 7);
        C.due("sum of 2", y.seen(0, 1, 1), 5);
        Hand.tell(y, 1, "over window 0; cut 1 more 5; cut 1 less 8;");
        C.due("cut behind a sum", y.look(1, 0), 1);
        Hand.tell(y, 2, "over window 0; sum 0 by 1;");
        C.due("sum of a sum", y.seen(2, 0, 0), 5);
        C.due("sum of a sum", y.seen(2, 0, 1), 2);
        Hand.tell(y, 3, "over wall 0; sum 2 by 1; join 0 by 0;");
        C.due("joined behind a sum: 1 7 1 4, 2 5 2 5", y.seen(3, 0, 3), 4);
    }

    private static void seenInOrder() {
        C.part("11 seen: order");
        ThroughWindow x = new ThroughWindow();
        x.wall(0, 3);
        x.row(0, 9, 2, 1, 0);
        x.row(0, 1, 2, 3, 0);
        x.row(0, 5, 0, 7, 0);
        Hand.tell(x, 0, "over wall 0; few 1 2;");
        int[][] due = {{0, 7}, {2, 1}, {2, 3}};
        for (int i = 0; i < 3; i++) {
            C.due("value", x.seen(0, i, 0), due[i][0]);
            C.due("value", x.seen(0, i, 1), due[i][1]);
        }
        Hand.tell(x, 1, "over window 0; few 0;");
        C.due("alike ones by keys, not as they were seen below", x.source(1, 1, 0, 1), 1);
        C.due("alike ones by keys", x.source(1, 2, 0, 1), 9);
        x.wall(1, 2);
        x.row(1, 2, 6, 0, 0);
        x.row(1, 0, 6, 0, 0);
        x.row(1, 3, 4, 0, 0);
        x.row(0, 0, 3, 0, 0);
        Hand.tell(x, 2, "over wall 0; sum 2 by 1; join 1 by 0; few 2;");
        C.due("4 comes first", x.seen(2, 0, 0), 4);
        C.due("behind a sum: 2 came ahead of 0", x.source(2, 1, 0, 1), 2);
        C.due("0 behind it", x.source(2, 2, 0, 1), 0);
    }

    private static void source() {
        C.part("12 source");
        ThroughWindow x = joined();
        int[][] due = {{0, 0, 0}, {1, 1, 1}};
        for (int j = 0; j < 2; j++) {
            for (int what = 0; what < 3; what++) {
                C.due("source", x.source(0, 0, j, what), due[j][what]);
            }
        }
        C.due("what 3", x.source(0, 0, 0, 3), -1);
        C.due("what -1", x.source(0, 0, 0, -1), -1);
        C.due("no row", x.source(0, 2, 0, 0), -1);
        C.due("no column", x.source(0, 0, 2, 0), -1);
        C.due("no window", x.source(1, 0, 0, 0), -1);
        ThroughWindow y = summed("");
        for (int what = 0; what < 3; what++) {
            C.due("of a sum none", y.source(0, 0, 0, what), -1);
            C.due("of a sum none", y.source(0, 0, 1, what), -1);
        }
        Hand.tell(y, 1, "over window 0; join 0 by 0;");
        C.due("joined behind a sum", y.source(1, 0, 3, 0), 0);
        C.due("joined behind a sum", y.source(1, 0, 3, 1), 1);
        C.due("joined behind a sum", y.source(1, 0, 3, 2), 2);
    }

    private static void look() {
        C.part("13 look");
        ThroughWindow x = new ThroughWindow();
        x.wall(1, 3);
        x.wall(2, 2);
        x.row(1, 4, 4, 4, 0);
        x.row(2, 4, 4, 0, 0);
        Hand.tell(x, 1, "over wall 1; join 2 by 1; fill 0 3; cut 0 is 4;");
        Hand.tell(x, 4, "over window 1; few 3; fill 0 9;");
        int[][] due = {{1, 4, 2, 1, 6}, {1, 1, 3, 1, 6}};
        for (int what = 0; what < 5; what++) {
            C.due("look(1, " + what + ")", x.look(1, what), due[0][what]);
            C.due("look(4, " + what + ")", x.look(4, what), due[1][what]);
            C.due("not told", x.look(0, what), -1);
            C.due("no such", x.look(6, what), -1);
            C.due("no such", x.look(-1, what), -1);
        }
        C.due("what 5", x.look(1, 5), -1);
        C.due("what -1", x.look(1, -1), -1);
    }

    private static void draft() {
        C.part("14 draft");
        ThroughWindow x = fives();
        C.no("column 8", x.draft(8, 0));
        C.no("column -1", x.draft(-1, 0));
        C.no("20", x.draft(0, 20));
        C.no("-1", x.draft(0, -1));
        C.yes("first, greatest", x.draft(0, 19));
        C.yes("last, least", x.draft(7, 0));
        C.due("a row as drafted", x.put(0, 2, 0, 0, 0), 2);
        C.due("it is seen", x.seen(0, 3, 0), 19);
    }

    private static void due(ThroughWindow x, int[] edit, int n, int... whats) {
        for (int what = 0; what < 6; what++) {
            C.due("way " + n + ", " + what, x.way(edit[0], edit[1], edit[2], edit[3], edit[4], n, what), whats[what]);
        }
    }

    private static void waysOfChange() {
        C.part("15, 16 ways, way: change");
        ThroughWindow x = fives();
        C.due("5 to 7", x.ways(0, 0, 0, 0, 7), 2);
        int[] edit = {0, 0, 0, 0, 7};
        due(x, edit, 0, 1, 1, 0, 1, 1, 7);
        due(x, edit, 1, 1, 1, 0, 2, 1, 7);
        due(x, edit, -1, 1, 1, 0, 1, 1, 7);
        due(x, edit, 2, -1, -1, -1, -1, -1, -1);
        due(x, edit, -2, -1, -1, -1, -1, -1, -1);
        due(x, edit, MAX, -1, -1, -1, -1, -1, -1);
        C.due("what 6", x.way(0, 0, 0, 0, 7, 0, 6), -1);
        C.due("what -1", x.way(0, 0, 0, 0, 7, 0, -1), -1);
        C.due("second row: the same", x.ways(0, 0, 1, 0, 7), 2);
        C.due("9 to 19", x.ways(0, 0, 2, 0, 19), 1);
        C.due("9 to 20", x.ways(0, 0, 2, 0, 20), 0);
        C.due("least of none", x.way(0, 0, 2, 0, 20, -1, 0), -1);
        C.due("9 to 199", x.ways(0, 0, 2, 0, 199), 0);
        C.yes("span", x.span(0, 1, 0, 10));
        C.due("9 to 11", x.ways(0, 0, 2, 0, 11), 0);
        C.due("9 to 10", x.ways(0, 0, 2, 0, 10), 1);
        Hand.tell(x, 1, "over wall 0; cut 1 less 9;");
        C.due("a key can't change", x.ways(1, 0, 0, 0, 0), 0);
        C.due("a value that is cut", x.ways(1, 0, 0, 1, 9), 0);
    }

    private static void waysOfDropAndAdd() {
        C.part("15, 16 ways, way: drop, add");
        ThroughWindow x = fives();
        C.due("a 5 goes", x.ways(0, 1, 0, 0, 0), 2);
        due(x, new int[] {0, 1, 0, MIN, MAX}, 1, 2, 2, 0, 2, -1, -1);
        due(x, new int[] {0, 1, 0, 0, 0}, -1, 2, 2, 0, 1, -1, -1);
        C.due("the 9 goes", x.ways(0, 1, 2, 99, 999), 1);
        x.draft(0, 6);
        C.due("a 6 comes", x.ways(0, 2, MIN, MAX, -5), 1);
        due(x, new int[] {0, 2, 0, 0, 0}, 0, 2, 3, 0, 0, -1, -1);
        Hand.tell(x, 1, "over wall 0; fill 0 7; few 1; fill 0 8;");
        due(x, new int[] {1, 2, 0, 0, 0}, 0, 2, 3, 0, 8, -1, -1);
        Hand.tell(x, 2, "over window 1; fill 1 3;");
        due(x, new int[] {2, 2, 0, 0, 0}, 0, 2, 3, 0, 8, -1, -1);
        Hand.tell(x, 3, "over window 1; fill 0 4;");
        due(x, new int[] {3, 2, 0, 0, 0}, 0, 2, 3, 0, 4, -1, -1);
        Hand.tell(x, 4, "over wall 0; fill 0 2; few 1;");
        C.due("its key is there", x.ways(4, 2, 0, 0, 0), 0);
        for (int key = 4; key < 11; key++) {
            x.row(0, key, 0, 0, 0);
        }
        C.due("ten are there", x.ways(0, 2, 0, 0, 0), 0);
        C.due("it can't", x.why(0, 2, 0, 0, 0), 1);
        x.out(0, 10);
        C.due("nine are", x.ways(0, 2, 0, 0, 0), 1);
    }

    private static void waysBehindJoin() {
        C.part("15, 16 ways, way: join");
        ThroughWindow x = joined();
        int[] edit = {0, 0, 0, 1, 8};
        C.due("7 to 8", x.ways(0, 0, 0, 1, 8), 2);
        due(x, edit, 0, 1, 1, 0, 0, 1, 2);
        due(x, edit, 1, 1, 1, 1, 1, 1, 8);
        C.yes("once", x.once(1, 1, true));
        C.due("the joined value is once", x.ways(0, 0, 0, 1, 8), 1);
        C.due("7 to 12", x.ways(0, 0, 0, 1, 12), 1);
        C.due("the first row goes", x.ways(0, 1, 0, 0, 0), 1);
        x.names(0, 1, -1);
        C.due("it may name none: 18 values, two rows that go", x.ways(0, 1, 0, 0, 0), 20);
        due(x, new int[] {0, 1, 0, 0, 0}, -1, 1, 1, 0, 0, 1, 0);
        due(x, new int[] {0, 1, 0, 0, 0}, 18, 2, 2, 0, 0, -1, -1);
        due(x, new int[] {0, 1, 0, 0, 0}, 19, 2, 2, 1, 1, -1, -1);
        x.draft(0, 4);
        x.draft(1, 7);
        Hand.tell(x, 1, "over wall 0; join 1 by 1; few 0 2; fill 1 1;");
        C.due("a row 4 7 comes, as 4 1", x.ways(1, 2, 0, 0, 0), 1);
        C.due("put", x.put(1, 2, 0, 0, 0), 2);
        C.due("its column is filled", Hand.valueOf(x, 0, 4, 1), 1);
        Hand.tell(x, 2, "over wall 0; join 0 by 1; few 2 0 1; cut 1 is 1;");
        C.due("a column of the base joined to itself is not its own", x.ways(2, 2, 0, 0, 0), 0);
    }

    private static void waysBehindSum() {
        C.part("15, 16 ways, way: sum");
        ThroughWindow x = summed("");
        C.due("7 to 8", x.ways(0, 0, 0, 1, 8), 2);
        C.due("7 to 3", x.ways(0, 0, 0, 1, 3), 2);
        due(x, new int[] {0, 0, 0, 1, 3}, 0, 1, 1, 0, 1, 2, 0);
        due(x, new int[] {0, 0, 0, 1, 3}, 1, 3, 2, 0, 1, -1, -1);
        C.due("7 to 4", x.ways(0, 0, 0, 1, 4), 3);
        C.due("the second goes", x.ways(0, 1, 1, 0, 0), 1);
        C.due("the second by 9", x.ways(0, 0, 1, 0, 9), 1);
        ThroughWindow y = summed("fill 0 9; fill 1 1; fill 2 1;");
        y.draft(0, 17);
        C.due("7 to 8, a row comes too", y.ways(0, 0, 0, 1, 8), 3);
        due(y, new int[] {0, 0, 0, 1, 8}, 2, 3, 3, 0, 9, -1, -1);
        ThroughWindow z = summed("fill 0 9; fill 1 4; fill 2 6;");
        z.draft(0, 4);
        z.draft(1, 6);
        C.due("a sum 4 6 comes by fills", z.ways(0, 2, 0, 0, 0), 1);
    }

    private static void waysAsItIs() {
        C.part("15, 16 ways, way: as it is");
        ThroughWindow x = fives();
        C.due("5 to 5", x.ways(0, 0, 0, 0, 5), 1);
        due(x, new int[] {0, 0, 0, 0, 5}, 0, 0, 0, -1, -1, -1, -1);
        due(x, new int[] {0, 0, 0, 0, 5}, -1, 0, 0, -1, -1, -1, -1);
        Hand.tell(x, 1, "over wall 0; cut 1 less 6; fill 0 8; fill 1 7; few 0;");
        x.draft(0, 1);
        C.due("nothing, 9 by 13 others, its row", x.ways(1, 0, 0, 0, 1), 1 + 13 + 2 * 5 + 1);
        x.draft(0, 12);
        C.due("and a row 12 7 that is not seen", x.ways(1, 0, 0, 0, 1), 1 + 13 + 2 * 5 + 1 + 1);
    }

    private static void waysWrong() {
        C.part("15 to 19 wrong edits");
        ThroughWindow x = fives();
        int[][] wrong = {{1, 0, 0, 0, 5}, {-1, 0, 0, 0, 5}, {6, 0, 0, 0, 5}, {0, -1, 0, 0, 5}, {0, 3, 0, 0, 5},
            {0, 0, 3, 0, 5}, {0, 0, -1, 0, 5}, {0, 0, 0, 1, 5}, {0, 0, 0, -1, 5}, {0, 0, 0, 0, 200}, {0, 0, 0, 0, -1},
            {0, 1, 3, 0, 0}, {0, 1, -1, 0, 0}, {MIN, MIN, MIN, MIN, MIN}, {MAX, MAX, MAX, MAX, MAX}};
        for (int[] e : wrong) {
            C.due("ways", x.ways(e[0], e[1], e[2], e[3], e[4]), -1);
            C.due("way", x.way(e[0], e[1], e[2], e[3], e[4], -1, 0), -1);
            C.due("why", x.why(e[0], e[1], e[2], e[3], e[4]), -1);
            C.due("barred", x.barred(e[0], e[1], e[2], e[3], e[4], 0), -1);
            C.due("put", x.put(e[0], e[1], e[2], e[3], e[4]), -1);
        }
        C.due("no put was done", x.carried(0, 0), -1);
    }

    private static void why() {
        C.part("17 why");
        ThroughWindow x = joined();
        C.due("fine", x.why(0, 0, 0, 1, 9), 0);
        C.due("a key", x.why(0, 0, 0, 0, 3), 1);
        C.due("a key that stays", x.why(0, 0, 0, 0, 0), 1);
        C.due("above 19", x.why(0, 0, 0, 1, 20), 1);
        C.due("drop", x.why(0, 1, 0, 0, 0), 0);
        C.due("add: 0 is there", x.why(0, 2, 0, 0, 0), 1);
        x.draft(0, 5);
        C.due("add: it names none and is not seen", x.why(0, 2, 0, 0, 0), 3);
        Hand.tell(x, 1, "over wall 0; join 1 by 1; few 0 2; fill 1 2;");
        C.due("add: it shows 5 8, not 5 0", x.why(1, 2, 0, 0, 0), 4);
        x.draft(1, 8);
        C.due("add: fine", x.why(1, 2, 0, 0, 0), 0);
        Hand.tell(x, 2, "over wall 0; cut 1 less 2;");
        C.due("it goes out of sight", x.why(2, 0, 0, 1, 2), 2);
        C.due("out of sight, and it names none", x.why(2, 0, 0, 1, 5), 3);
        x.row(0, 7, 1, 0, 0);
        Hand.tell(x, 3, "over wall 0; join 1 by 1;");
        C.due("both rows that join it change", x.why(3, 0, 0, 2, 9), 4);
        x.once(1, 1, true);
        C.due("they do, and it is once", x.why(3, 0, 0, 2, 8), 5);
        ThroughWindow y = summed("");
        C.due("a sum has no source", y.why(0, 0, 0, 1, 8), 1);
        C.due("drop behind a sum", y.why(0, 1, 0, 0, 0), 1);
        Hand.tell(y, 1, "over window 0; join 0 by 0;");
        C.due("joined behind a sum: the sum changes, too", y.why(1, 0, 0, 3, 9), 4);
        C.due("drop behind a sum, joined", y.why(1, 1, 0, 0, 0), 1);
    }

    private static void barred() {
        C.part("18 barred");
        ThroughWindow x = joined();
        C.due("none broken", x.barred(0, 0, 0, 1, 9, 0), -1);
        C.due("can't be done", x.barred(0, 0, 0, 0, 9, 0), -1);
        x.once(1, 1, true);
        int[] once = {1, 1, 3};
        int[] names = {0, 1, 2};
        int[] span = {1, 1, 1};
        Hand.tell(x, 1, "over wall 0;");
        for (int what = 0; what < 3; what++) {
            C.due("once", x.barred(0, 0, 0, 1, 8, what), once[what]);
            C.due("names", x.barred(1, 0, 0, 1, 5, what), names[what]);
        }
        C.yes("span", x.span(1, 1, 0, 8));
        Hand.tell(x, 2, "over wall 1;");
        for (int what = 0; what < 3; what++) {
            C.due("span", x.barred(2, 0, 0, 1, 9, what), span[what]);
            C.due("a named row goes", x.barred(2, 1, 0, 0, 0, what), names[what]);
        }
        C.due("what 3", x.barred(0, 0, 0, 1, 8, 3), -1);
        C.due("what -1", x.barred(0, 0, 0, 1, 8, -1), -1);
        x.span(0, 0, 0, 3);
        x.span(0, 1, 0, 3);
        x.draft(0, 5);
        x.draft(1, 7);
        C.due("by columns: the key first", x.barred(1, 2, 0, 0, 0, 1), 0);
        C.due("by columns: the key first", x.barred(1, 2, 0, 0, 0, 2), 1);
        x.draft(0, 3);
        C.due("of one column: span ahead of names", x.barred(1, 2, 0, 0, 0, 1), 1);
        C.due("of one column: span ahead of names", x.barred(1, 2, 0, 0, 0, 2), 1);
        x.draft(0, 1);
        C.due("its key is there: it can't be done", x.barred(1, 2, 0, 0, 0, 2), -1);
    }

    private static void put() {
        C.part("19 put");
        ThroughWindow x = fives();
        C.due("5 to 7", x.put(0, 0, 1, 0, 7), 1);
        C.due("the first way", Hand.valueOf(x, 0, 1, 1), 7);
        C.due("the other stays", Hand.valueOf(x, 0, 2, 1), 5);
        C.due("nothing", x.put(0, 0, 0, 0, 5), 0);
        C.due("no way", x.put(0, 0, 0, 0, 20), -1);
        C.due("drop", x.put(0, 1, 0, 0, 0), 2);
        C.due("rows", x.count(0), 2);
        x.draft(0, 2);
        C.due("add", x.put(0, 2, 0, 0, 0), 2);
        C.due("its key is 0", Hand.valueOf(x, 0, 0, 1), 2);
        C.due("values together", x.count(5), 1 + 7 + 3 + 9 + 0 + 2);
        ThroughWindow y = new ThroughWindow();
        y.wall(0, 2);
        y.wall(1, 1);
        y.row(0, 1, 4, 0, 0);
        y.row(1, 4, 0, 0, 0);
        y.span(0, 1, 4, 4);
        Hand.tell(y, 0, "over wall 0; join 1 by 1;");
        C.due("the cheaper row goes", y.put(0, 1, 0, 0, 0), 1);
        C.due("of wall 1", y.count(1), 0);
        C.due("not of wall 0", y.count(0), 1);
    }

    private static void twiceAndBack() {
        C.part("20 twice");
        ThroughWindow x = fives();
        C.due("the row in that place is another", x.twice(0, 0, 0, 7, 8), 0);
        C.due("the same row", x.twice(0, 2, 0, 10, 11), 1);
        C.due("one can't", x.twice(0, 2, 0, 20, 11), 0);
        C.due("the other can't", x.twice(0, 2, 0, 10, 20), 0);
        C.due("wrong u", x.twice(0, 2, 0, 200, 11), -1);
        C.due("wrong v", x.twice(0, 2, 0, 10, -1), -1);
        C.due("wrong row", x.twice(0, 3, 0, 10, 11), -1);
        C.due("wrong column", x.twice(0, 2, 1, 10, 11), -1);
        C.due("wrong window", x.twice(1, 2, 0, 10, 11), -1);
        C.part("21 back");
        C.due("another row comes to that place", x.back(0, 0, 0, 7), 0);
        C.due("as it was", x.back(0, 2, 0, 10), 1);
        C.due("nothing twice", x.back(0, 0, 0, 5), 1);
        C.due("it can't", x.back(0, 2, 0, 20), 0);
        C.due("wrong value", x.back(0, 2, 0, 200), -1);
        C.due("wrong row", x.back(0, -1, 0, 10), -1);
        C.due("wrong window", x.back(6, 2, 0, 10), -1);
        C.due("they only ask", x.count(5), 25);
        C.due("they are no puts", x.carried(0, 0), -1);
    }

    private static void clash() {
        C.part("22 clash");
        ThroughWindow x = fives();
        Hand.tell(x, 1, "over wall 0; cut 1 more 6;");
        C.due("alike", x.clash(0, 0, 7, 0, 16, 10), 0);
        C.due("not alike", x.clash(0, 0, 7, 0, 0, 8), 1);
        C.due("none", x.clash(0, 0, 150, 0, 16, 10), 4);
        C.due("9 to 6, then no row is in the other window", x.clash(0, 16, 6, 1, 1, 12), 3);
        C.due("the other way round", x.clash(1, 1, 12, 0, 16, 6), 2);
        C.due("p -1", x.clash(0, -1, 7, 0, 0, 7), -1);
        C.due("q -8", x.clash(0, 0, 7, 0, -8, 7), -1);
        C.due("no row", x.clash(0, 24, 7, 0, 0, 7), -1);
        C.due("no column", x.clash(0, 0, 7, 0, 1, 7), -1);
        C.due("no value", x.clash(0, 0, 200, 0, 0, 7), -1);
        C.due("no window", x.clash(0, 0, 7, 2, 0, 7), -1);
        C.due("wild", x.clash(MIN, MIN, MIN, MAX, MAX, MAX), -1);
        C.due("it only asks", x.count(5), 25);
    }

    private static void fits() {
        C.part("23 fits");
        ThroughWindow x = fives();
        C.due("all rows, one column", x.fits(0, 0), 1 + 196 + 1 + 190 + 5);
        Hand.tell(x, 1, "over wall 0; cut 1 is 5; few 1 0;");
        C.due("two rows, two columns in one order of two", x.fits(1, 0), 1 + 4 + 1);
        C.due("no window", x.fits(2, 0), -1);
        C.due("no window", x.fits(-1, 0), -1);
        C.due("no wall", x.fits(0, 1), -1);
        C.due("no wall", x.fits(0, MAX), -1);
        x.wall(1, 1);
        C.due("more columns than there are", x.fits(1, 1), 0);
        C.due("no rows there", x.fits(0, 1), 0);
        Hand.tell(x, 2, "over wall 0; cut 1 is 0; few 0;");
        C.due("nothing is shown: every cut and none", x.fits(2, 1), 601);
        C.due("nothing of wall 0 is shown", x.fits(2, 0), 2 * 791);
    }

    private static void clerkAndNight() {
        C.part("24 clerk");
        ThroughWindow x = fives();
        C.no("clerk 3", x.clerk(3, 0, 0, 0));
        C.no("clerk -1", x.clerk(-1, -1, 0, 0));
        C.no("window not told", x.clerk(0, 1, 0, 0));
        C.no("window -2", x.clerk(0, -2, 0, 0));
        C.no("window 6", x.clerk(0, 6, 0, 0));
        C.no("place 80", x.clerk(0, 0, 80, 0));
        C.no("place -1", x.clerk(0, 0, -1, 0));
        C.no("value 200", x.clerk(0, 0, 0, 200));
        C.no("value -1", x.clerk(0, 0, 0, -1));
        C.due("none has one", x.night(3), 1);
        C.yes("edges", x.clerk(2, 0, 79, 199));
        C.part("25 night");
        C.due("one order", x.night(3), 1);
        C.due("no such place", x.night(0), 0);
        C.due("none is put", x.night(2), 0);
        C.yes("none", x.clerk(2, -1, 0, 0));
        C.yes("5 to 7", x.clerk(0, 0, 0, 7));
        C.yes("5 to 8", x.clerk(1, 0, 0, 8));
        int[] two = {2, 2, 2, 2};
        for (int what = 0; what < 4; what++) {
            C.due("two clerks", x.night(what), two[what]);
        }
        C.yes("it can't", x.clerk(2, 0, 0, 150));
        int[] three = {0, 0, 2, 6};
        for (int what = 0; what < 4; what++) {
            C.due("three clerks", x.night(what), three[what]);
        }
        C.yes("another row", x.clerk(2, 0, 16, 12));
        int[] whole = {6, 2, 3, 6};
        for (int what = 0; what < 4; what++) {
            C.due("three that can", x.night(what), whole[what]);
        }
        C.due("what 4", x.night(4), -1);
        C.due("what -1", x.night(-1), -1);
        C.due("it only asks", x.count(5), 25);
        C.due("it is no put", x.carried(0, 0), -1);
    }

    private static void carried() {
        C.part("26 carried");
        ThroughWindow x = fives();
        Hand.tell(x, 1, "over wall 0; cut 1 more 8;");
        C.due("no put", x.carried(0, 0), -1);
        x.put(0, 0, 0, 0, 7);
        C.due("came", x.carried(0, 0), 1);
        C.due("went", x.carried(0, 1), 1);
        C.due("not seen there", x.carried(1, 0), 0);
        C.due("not seen there", x.carried(1, 1), 0);
        C.due("put that can't", x.put(0, 0, 0, 0, 20), -1);
        C.due("the latest is the same", x.carried(0, 1), 1);
        x.row(0, 9, 9, 0, 0);
        C.due("seen now: 7 and one more 9", x.carried(0, 0), 2);
        C.due("went", x.carried(0, 1), 1);
        C.due("one more 9", x.carried(1, 0), 1);
        Hand.tell(x, 2, "over wall 0; sum 1 by 0;");
        C.due("a window told behind it", x.carried(2, 0), 2);
        C.due("a window told behind it", x.carried(2, 1), 1);
        x.put(0, 0, 0, 0, 5);
        C.due("nothing was put", x.carried(0, 0), 0);
        x.put(0, 1, 0, 0, 0);
        C.due("a drop: came", x.carried(0, 0), 0);
        C.due("a drop: went", x.carried(0, 1), 1);
        C.due("what 2", x.carried(0, 2), -1);
        C.due("what -1", x.carried(0, -1), -1);
        C.due("no window", x.carried(3, 0), -1);
        C.due("no window", x.carried(-1, 0), -1);
    }

    private static void cuts() {
        C.part("27 cuts");
        ThroughWindow x = fives();
        int[][] due = {{6, 0, 0, 3}, {392, 0, 0, 4}, {791, 0, 0, 0}, {0, -1, -1, -1}, {1 + 1 + 1 + 4, 0, 1, 3}};
        int[] sets = {3, 7, 0, 5, 4};
        for (int n = 0; n < sets.length; n++) {
            for (int what = 0; what < 4; what++) {
                C.due("cuts(0, " + sets[n] + ", " + what + ")", x.cuts(0, sets[n], what), due[n][what]);
            }
        }
        C.due("what 4", x.cuts(0, 3, 4), -1);
        C.due("what -1", x.cuts(0, 3, -1), -1);
        C.due("set 8", x.cuts(0, 8, 0), -1);
        C.due("set -1", x.cuts(0, -1, 0), -1);
        C.due("no wall", x.cuts(1, 0, 0), -1);
        C.due("no wall", x.cuts(-1, 0, 0), -1);
        x.wall(1, 3);
        C.due("no rows: all cuts", x.cuts(1, 0, 0), 1800);
        C.due("no rows: set 1", x.cuts(1, 1, 0), -1);
    }

    private static void moves() {
        C.part("28 moves");
        ThroughWindow x = fives();
        C.due("9", x.moves(0, 1, 0, 5), 1);
        C.due("5, 5", x.moves(0, 1, 9, 9), 2);
        C.due("all", x.moves(0, 1, 6, 8), 3);
        C.due("none", x.moves(0, 1, 5, 9), 0);
        C.due("the key", x.moves(0, 0, 2, 3), 1);
        C.due("no column", x.moves(0, 2, 0, 19), -1);
        C.due("no column", x.moves(0, -1, 0, 19), -1);
        C.due("no wall", x.moves(1, 0, 0, 19), -1);
        C.due("no span", x.moves(0, 1, 5, 4), -1);
        C.due("no span", x.moves(0, 1, -1, 4), -1);
        C.due("no span", x.moves(0, 1, 0, 20), -1);
        C.yes("it only asks", x.row(0, 4, 19, 0, 0));
    }

    private static void mark() {
        C.part("29 mark");
        ThroughWindow x = fives();
        C.no("mark 4", x.mark(4, false));
        C.no("mark -1", x.mark(-1, false));
        C.no("mark 4 back", x.mark(4, true));
        C.no("nothing on it", x.mark(3, true));
        C.yes("mark", x.mark(3, false));
        x.put(0, 1, 0, 0, 0);
        C.yes("another", x.mark(0, false));
        C.yes("back", x.mark(3, true));
        C.due("three rows", x.count(0), 3);
        C.yes("forth", x.mark(0, true));
        C.due("two rows", x.count(0), 2);
        C.yes("span", x.span(0, 0, 2, 3));
        C.no("not lawful", x.mark(3, true));
        C.due("two rows", x.count(0), 2);
        C.yes("span", x.span(0, 0, 0, 3));
        x.out(0, 3);
        C.yes("back", x.mark(3, true));
        C.due("three rows", x.count(0), 3);
        C.no("laws are not taken back", x.row(0, 4, 5, 0, 0));
        x.wall(1, 1);
        x.row(1, 5, 0, 0, 0);
        C.yes("once more", x.mark(3, true));
        C.due("a wall told later has no rows then", x.count(1), 0);
        x.row(0, 0, 8, 0, 0);
        C.yes("told anew", x.mark(3, false));
        x.out(0, 0);
        C.yes("back", x.mark(3, true));
        C.due("four rows", x.count(0), 4);
    }

    private static void count() {
        C.part("30 count");
        ThroughWindow x = fives();
        C.due("rows", x.count(0), 3);
        C.due("not told", x.count(1), -1);
        C.due("windows", x.count(3), 1);
        Hand.tell(x, 5, "over wall 0;");
        Hand.tell(x, 5, "over wall 0;");
        C.due("windows", x.count(3), 2);
        Hand.feed(x, "cut 1");
        C.due("signs", x.count(4), 5);
        C.due("all values", x.count(5), 1 + 5 + 2 + 5 + 3 + 9);
        x.wall(1, 1);
        x.row(1, 19, 7, 0, 0);
        C.due("all values", x.count(5), 25 + 19);
        C.due("what 6", x.count(6), -1);
        C.due("what -1", x.count(-1), -1);
        C.due("what", x.count(MIN), -1);
        C.due("what", x.count(MAX), -1);
    }
}
