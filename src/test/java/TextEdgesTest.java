/**
 * The tape and the language of windows (promises 8 and 9): each sentence of the document that names a
 * boundary has a test of its own, which begins with that sentence.
 */
public final class TextEdgesTest {
    private static final Checks C = new Checks("TextEdgesTest");
    private static final int MIN = Hand.MIN;
    private static final int MAX = Hand.MAX;
    private static final String BLANKS = " ".repeat(24);

    public static void main(String[] args) {
        feedSigns();
        feedInOrder();
        feedUpToAThousand();
        feedBeyondAThousand();
        tapeIsTaken();
        blanksWhereOneLikes();
        blanksLeftOut();
        wordsOfEightLetters();
        numbersOfThreeDigits();
        allElseIsNone();
        theEndIsAToken();
        theFirstTokenThatIsWrong();
        theLeastKindOfAToken();
        whatCanNotStandThere();
        wordsSignBySign();
        wallNumbers();
        windowNumbers();
        joinNumbers();
        cutNumbers();
        fewColumns();
        fewOnce();
        sumColumns();
        fillColumnsOfTheBase();
        sixPanes();
        eightColumns();
        columnsOfWhatThereIsThen();
        faultsLeaveAll();
        noSuchWindow();
        underAnother();
        C.end();
    }

    /** Walls of 4, 3 and 1 columns. */
    private static ThroughWindow told() {
        return Hand.walls(Hand.columns(4, 3, 1));
    }

    /** The first @ stands where the fault is; without one the text is a window. */
    private static void read(ThroughWindow x, int window, String text, int kind) {
        int place = text.indexOf('@');
        int due = place < 0 ? 0 : kind + 16 * place;
        C.due("window(" + window + ") of " + text, Hand.tell(x, window, text.replaceFirst("@", "")), due);
    }

    private static void fine(String text) {
        read(told(), 0, text, 0);
    }

    private static void fault(String text, int kind) {
        read(told(), 0, text, kind);
    }

    private static void feedSigns() {
        C.part("8: others than 10 and 32 .. 126 .. are left out");
        for (int sign = 0; sign < 256; sign++) {
            boolean counts = sign == 10 || sign >= 32 && sign <= 126;
            for (int place = 0; place < 24; place++) {
                long[] words = new long[3];
                words[place / 8] = (long) sign << 56 - place % 8 * 8;
                int signs = new ThroughWindow().feed(words[0], words[1], words[2]);
                C.due("sign " + sign + " in place " + place, signs, counts ? 1 : 0);
            }
        }
    }

    private static void feedInOrder() {
        C.part("8: the bytes of a, b, c, of each the highest first");
        ThroughWindow x = told();
        long[] words = Hand.words("over wall 0;few 3 2 1 0;");
        C.due("24 signs", x.feed(words[0], words[1], words[2]), 24);
        C.due("window", x.window(0), 0);
        C.due("columns", x.look(0, 1), 4);
        words = Hand.words("over wall 1;cut 0 is 3;}");
        C.due("24 signs", x.feed(words[0], words[1], words[2]), 24);
        C.due("the last sign is the last byte of c", x.window(0), 1 + 16 * 23);
        C.due("signs on both sides of what is left out", x.feed(0x6f00767f6500721fL, -1, 0x2077616c6c203100L), 11);
        C.due("behind the tape", x.feed(0, 0, ';'), 12);
        C.due("over wall 1;", x.window(1), 0);
        C.due("base", x.look(1, 3), 1);
    }

    private static ThroughWindow fedTo(int signs) {
        ThroughWindow x = told();
        for (int n = 0; n < signs / 24; n++) {
            Hand.feed(x, BLANKS);
        }
        C.due("so many signs", Hand.feed(x, BLANKS.substring(0, signs % 24)), signs);
        return x;
    }

    private static void feedUpToAThousand() {
        C.part("8: The TAPE has at most 1,000 signs");
        ThroughWindow x = fedTo(988);
        C.due("just full", Hand.feed(x, "over wall 0;"), 1000);
        C.due("count", x.count(4), 1000);
        C.due("all are read", x.window(0), 0);
        ThroughWindow y = fedTo(998);
        C.due("999", Hand.feed(y, "~"), 999);
        C.due("a sign that is left out takes no room", y.feed(0x7f00000000000000L, 0, 0), 999);
        C.due("1000", Hand.feed(y, "~"), 1000);
        C.due("the first of both", y.window(0), 1 + 16 * 998);
    }

    private static void feedBeyondAThousand() {
        C.part("8: what is beyond 1,000 .. left out");
        ThroughWindow x = fedTo(988);
        C.due("the rest of a call is left out", Hand.feed(x, "over wall 0;~~~~~~~~~~~~"), 1000);
        C.due("no more", Hand.feed(x, "~~~~"), 1000);
        C.due("nothing", x.feed(0, 0, 0), 1000);
        C.due("none of it is there", x.window(0), 0);
        ThroughWindow y = fedTo(989);
        C.due("the semicolon is beyond", Hand.feed(y, "over wall 0;"), 1000);
        C.due("the end is at 1,000", y.window(0), 1 + 16 * 1000);
        C.due("empty again", Hand.feed(y, "over"), 4);
    }

    private static void tapeIsTaken() {
        C.part("9: what reads it takes it: it is empty then");
        ThroughWindow x = told();
        C.due("read", Hand.tell(x, 0, "over wall 0;"), 0);
        C.due("empty", x.count(4), 0);
        C.due("nothing is there to read", x.window(0), 1);
        C.due("a fault", Hand.tell(x, 0, "over wall 0; cut 9 is"), 4 + 16 * 17);
        C.due("empty", x.count(4), 0);
        for (int window : new int[] {-1, 6}) {
            C.due("no such number", Hand.tell(x, window, "over wall 0;"), -1);
            C.due("empty", x.count(4), 0);
        }
        C.due("over it", Hand.tell(x, 1, "over window 0;"), 0);
        C.due("another one is over it", Hand.tell(x, 0, "over wall 0;"), -1);
        C.due("empty", x.count(4), 0);
        Hand.feed(x, "over wall 1;");
        x.look(0, 0);
        x.put(0, 2, 0, 0, 0);
        x.row(0, 1, 2, 3, 4);
        C.due("nothing else reads it", x.count(4), 12);
    }

    private static void blanksWhereOneLikes() {
        C.part("9: blanks (10, 32) between where one likes");
        fine("  \n over \n\n wall   0 \n ; \n cut\n0\nless\n5\n;\nfew\n3\n1\n;  join 1\n\nby 1 ; sum 0 by 1;\nfill\n0 0;\n ");
        fault("over wall 0;\n\n\n @x", 1);
        fault("over wall 0; few 1 \n \n@", 1);
        fault("@o ver wall 0;", 1);
        fault("over @wal l 0;", 1);
        fault("over wall 0; cut 0 @l ess 3;", 1);
    }

    private static void blanksLeftOut() {
        C.part("9: NUMBERS (.. a letter may stand right behind)");
        fine("over wall 0;cut 0less 5;cut 3is 7;cut 1more 9;join 1by 0;sum 0by 1;fill 0 0;");
        fine("over wall0;cut0less5;few1 0;join1by0;sum0by1;fill0 0;");
        fault("over wall 0@x;", 1);
        fault("over wall 0; few 0@few;", 1);
        fault("@overwall 0;", 1);
        fault("over @wallone;", 1);
        fault("over wall 0; cut 0 @isis 7;", 1);
    }

    private static void wordsOfEightLetters() {
        C.part("9: WORDS (letters a .. z, 8 at most); a longer WORD .. at its first sign .. is none");
        fault("@abcdefgh", 1);
        fault("@abcdefghi", 1);
        fault("@overoverover wall 0;", 1);
        fault("over wall 0; @cutcutcut 0 is 1;", 1);
        fault("over wall 0; cut 0 @lesslessless 1;", 1);
        fault("@overa wall 0;", 1);
        fault("@ove wall 0;", 1);
        fault("@Over wall 0;", 1);
        fault("over @WALL 0;", 1);
        fault("over wall@`0;", 1);
        fault("over wall@{0;", 1);
    }

    private static void numbersOfThreeDigits() {
        C.part("9: NUMBERS (1 to 3 digits); a longer NUMBER .. at its first sign .. is none");
        fine("over wall 000; cut 003 is 099; few 00 1 002; fill 03 019;");
        fault("over wall @0000;", 1);
        fault("over wall @1000;", 1);
        fault("over wall 0; cut 0 is @1999;", 1);
        fault("over wall 0; cut 0 is @00001;", 1);
        fault("over wall 0; cut 0 is @19999999999999999999;", 1);
        fault("over wall 0; fill 0 @0001;", 1);
        fault("over wall 0; cut 0 is @999;", 4);
        fault("over wall 0; few @10;", 4);
        fault("over wall 0; few 1 @01;", 3);
        fault("over wall 0@/;", 1);
        fault("over wall 0@:;", 1);
    }

    private static void allElseIsNone() {
        C.part("9: All else .. is none");
        for (char sign = 33; sign < 127; sign++) {
            boolean token = sign == ';' || sign >= '0' && sign <= '9' || sign >= 'a' && sign <= 'z';
            if (!token) {
                fault("@" + sign, 1);
                fault("over wall 0 @" + sign + ";", 1);
                fault("over wall 0;@" + sign, 1);
                fault("over wall 0; few 1 @" + sign + " 0;", 1);
                fault("over wall 0; cut 1 is 1@" + sign + ";", 1);
            }
        }
    }

    private static void theEndIsAToken() {
        C.part("9: the end being one at the text's length");
        String[] tokens = ("over wall 0 ; few 0 1 ; join 1 by 0 ; sum 0 by 1 ; cut 0 less 5 ; cut 0 is 5 ;"
                + " cut 0 more 5 ; fill 0 1 ;").split(" ");
        StringBuilder text = new StringBuilder();
        for (String token : tokens) {
            text.append(text.length() > 0 ? " " : "").append(token);
            if (token.equals(";")) {
                fine(text.toString());
                fine(text + " \n");
            } else {
                fault(text + "@", 1);
                fault(text + " \n@", 1);
            }
        }
        fault("@", 1);
        fault("\n @", 1);
    }

    private static void theFirstTokenThatIsWrong() {
        C.part("9: of the first token from the left that is wrong");
        fault("over wall @3 cut 9;", 4);
        fault("over wall 0; cut @4 under 200", 4);
        fault("over wall 0; cut 3 @under 200", 1);
        fault("over wall 0; cut 3 is @200", 4);
        fault("over wall 0; few 0 @0 4", 3);
        fault("over wall 0; few 0 @4 0", 4);
        fault("over wall 0; join @3 to 9", 4);
        fault("over wall 0; join 1 @to 9", 1);
        fault("over wall 0; join 1 by @9 9", 4);
        fault("over wall 0; sum @4 by 4", 4);
        fault("over wall 0; sum 1 by @1 1", 3);
        fault("over wall 0; fill @4 20", 4);
        fault("over wall 0; fill 3 @20 20", 4);
    }

    private static void theLeastKindOfAToken() {
        C.part("9: the least");
        ThroughWindow x = Hand.walls(Hand.columns(4, 0, 4));
        read(x, 1, "over wall 0; join 2 by 0; few 0 1 2 3 4; join 2 by 0; join @1 by 0;", 2);
        read(x, 1, "over wall 0; join 2 by 0; few 0 1 2 3 4; join 2 by 0; join @3 by 0;", 4);
        read(x, 1, "over wall 0; join 2 by 0; few 0 1 2 3 4; join 2 by 0; join @2 by 0;", 5);
        String six = "cut 0 is 1;".repeat(6);
        read(x, 1, "over wall 0;" + six + "@cute 0 is 1;", 1);
        read(x, 1, "over wall 0;" + six + "@less 0 is 1;", 1);
        read(x, 1, "over wall 0;" + six + "@7;", 1);
    }

    private static void whatCanNotStandThere() {
        C.part("9: 1 it .. can't stand there");
        String[] texts = {"@;", "@0", "@wall 0;", "@cut 0 is 1;", "over @;", "over @0;", "over @over wall 0;",
            "over wall @wall 0;", "over wall @;", "over window @wall 0;", "over wall 0 @0;", "over wall 0 @cut",
            "over wall 0;@;", "over wall 0;@0", "over wall 0; @over wall 0;", "over wall 0; @less 1;",
            "over wall 0; cut @less 1;", "over wall 0; cut @;", "over wall 0; cut 0 @0;", "over wall 0; cut 0 @by 1;",
            "over wall 0; cut 0 @;", "over wall 0; cut 0 less @is 1;", "over wall 0; cut 0 less @;",
            "over wall 0; cut 0 less 1 @1;", "over wall 0; cut 0 less 1 @cut", "over wall 0; few @;",
            "over wall 0; few @few 1;", "over wall 0; few 0 @by 1;", "over wall 0; few 0 1 @few 1;",
            "over wall 0; join @by 0;", "over wall 0; join @wall 1 by 0;", "over wall 0; join 1 @;",
            "over wall 0; join 1 @0;", "over wall 0; join 1 by @;", "over wall 0; join 1 by @by 0;",
            "over wall 0; join 1 by 0 @0;", "over wall 0; sum @by 0;", "over wall 0; sum @;", "over wall 0; sum 0 @;",
            "over wall 0; sum 0 @1;", "over wall 0; sum 0 by @;", "over wall 0; sum 0 by @by 1;",
            "over wall 0; sum 0 by 1 @2;", "over wall 0; fill @;", "over wall 0; fill @is 1;", "over wall 0; fill 0 @;",
            "over wall 0; fill 0 @is 1;", "over wall 0; fill 0 1 @1;", "over wall 0; fill 0 1 @fill 0 1;"};
        for (String text : texts) {
            fault(text, 1);
        }
    }

    /** A word is wrong whichever of its letters is another one, is missing, or is one more. */
    private static void wordsSignBySign() {
        C.part("9: WORDS, sign by sign");
        String[] texts = {"@over wall 0;", "over @wall 0;", "over @window 0;", "over wall 0; @cut 0 less 1;",
            "over wall 0; cut 0 @less 1;", "over wall 0; cut 0 @is 1;", "over wall 0; cut 0 @more 1;",
            "over wall 0; @few 0;", "over wall 0; @join 1 by 0;", "over wall 0; join 1 @by 0;",
            "over wall 0; @sum 0 by 1;", "over wall 0; sum 0 @by 1;", "over wall 0; @fill 0 1;"};
        for (String text : texts) {
            int from = text.indexOf('@') + 1;
            int to = text.indexOf(' ', from);
            String head = text.substring(0, from);
            String word = text.substring(from, to);
            String tail = text.substring(to);
            for (int k = 0; k < word.length(); k++) {
                fault(head + word.substring(0, k) + "x" + word.substring(k + 1) + tail, 1);
                fault(head + word.substring(0, k) + word.substring(k + 1) + tail, 1);
            }
            for (String more : new String[] {"a", "m", "z"}) {
                fault(head + word + more + tail, 1);
                fault(head + more + word + tail, 1);
            }
        }
    }

    private static void wallNumbers() {
        C.part("9: N of wall 0 to 2 (told)");
        ThroughWindow x = Hand.walls(Hand.columns(1, 0, 1));
        read(x, 0, "over wall 0;", 0);
        read(x, 0, "over wall @1;", 2);
        read(x, 0, "over wall 2;", 0);
        read(x, 0, "over wall @3;", 4);
        read(x, 0, "over wall @999;", 4);
        x.wall(1, 1);
        read(x, 0, "over wall 1;", 0);
    }

    private static void windowNumbers() {
        C.part("9: N .. of window less than its own number (told)");
        ThroughWindow x = told();
        read(x, 0, "over window @0;", 4);
        read(x, 3, "over window @0;", 2);
        read(x, 3, "over window @2;", 2);
        read(x, 3, "over window @3;", 4);
        read(x, 3, "over window @4;", 4);
        read(x, 3, "over window @6;", 4);
        read(x, 0, "over wall 0;", 0);
        read(x, 4, "over wall 0;", 0);
        read(x, 0, "over window @0;", 4);
        read(x, 3, "over window @4;", 4);
        read(x, 3, "over window 0;", 0);
        read(x, 3, "over window @3;", 4);
        read(x, 5, "over window 4;", 0);
        read(x, 5, "over window @5;", 4);
        read(x, 5, "over window @999;", 4);
    }

    private static void joinNumbers() {
        C.part("9: N .. of join 0 to 2 (told)");
        ThroughWindow x = Hand.walls(Hand.columns(2, 0, 2));
        read(x, 0, "over wall 0; join 0 by 1;", 0);
        read(x, 0, "over wall 0; join @1 by 1;", 2);
        read(x, 0, "over wall 0; join 2 by 1;", 0);
        read(x, 0, "over wall 0; join @3 by 1;", 4);
        read(x, 0, "over wall 0; join @999 by 1;", 4);
        read(x, 0, "over wall 0; join 2 by 0;", 0);
        read(x, 0, "over wall 0; join 2 by @2;", 4);
        read(x, 0, "over wall 0; join 2 by 1; join 2 by 2;", 0);
    }

    private static void cutNumbers() {
        C.part("9: N .. of cut 0 to 199");
        for (String how : new String[] {"less", "is", "more"}) {
            fine("over wall 0; cut 0 " + how + " 0;");
            fine("over wall 0; cut 3 " + how + " 199;");
            fault("over wall 0; cut 3 " + how + " @200;", 4);
            fault("over wall 0; cut @4 " + how + " 199;", 4);
        }
    }

    private static void fewColumns() {
        C.part("9: few: one COLUMN or more");
        fault("over wall 0; few @;", 1);
        fine("over wall 0; few 0;");
        fine("over wall 0; few 3 2 1 0;");
        fine("over wall 2; few 0;");
        fault("over wall 0; few @4;", 4);
        fault("over wall 0; few 0 1 2 3 @4;", 4);
        fault("over wall 2; few @1;", 4);
    }

    private static void fewOnce() {
        C.part("9: each once; 3 a COLUMN told in this few .. already");
        fault("over wall 0; few 0 @0;", 3);
        fault("over wall 0; few 3 2 1 0 @3;", 3);
        fault("over wall 0; few 3 2 1 0 @0;", 3);
        fine("over wall 0; few 0 1; few 0 1; few 1 0;");
        ThroughWindow x = Hand.walls(Hand.columns(4, 4));
        String eight = "over wall 0; join 1 by 0; few 0 1 2 3 4; join 1 by 0; few 7 6 5 4 3 2 1 0";
        read(x, 0, eight + ";", 0);
        for (int column = 0; column < 8; column++) {
            read(x, 0, eight + " @" + column + ";", 3);
        }
        read(x, 0, eight + " @8;", 4);
        read(x, 0, eight + " @few", 1);
        read(x, 0, eight + "@", 1);
    }

    private static void sumColumns() {
        C.part("9: sum: two COLUMNS that are not the same");
        fine("over wall 0; sum 0 by 3;");
        fine("over wall 0; sum 3 by 0;");
        for (int column = 0; column < 4; column++) {
            fault("over wall 0; sum " + column + " by @" + column + ";", 3);
        }
        fault("over wall 0; sum @4 by 0;", 4);
        fault("over wall 0; sum 0 by @4;", 4);
        fault("over wall 2; sum 0 by @0;", 3);
        fault("over wall 2; sum 0 by @1;", 4);
    }

    private static void fillColumnsOfTheBase() {
        C.part("9: of fill 0 to 19; C .. of fill a COLUMN of the BASE");
        fine("over wall 0; fill 0 0; fill 3 19;");
        fault("over wall 0; fill @4 0;", 4);
        fault("over wall 0; fill 0 @20;", 4);
        fine("over wall 0; few 1; fill 3 5;");
        fine("over wall 0; sum 0 by 1; fill 3 5;");
        fault("over wall 0; join 1 by 0; fill @4 5;", 4);
        fault("over wall 2; join 0 by 0; fill @1 5;", 4);
        ThroughWindow x = told();
        read(x, 0, "over wall 1; few 0; join 0 by 0;", 0);
        read(x, 1, "over window 0; fill 2 5;", 0);
        read(x, 1, "over window 0; fill @3 5;", 4);
    }

    private static void sixPanes() {
        C.part("9: At most 6 PANES (fill is none); 5 .. of a seventh PANE");
        String[] panes = {"cut 0 less 9;", "few 1 0;", "join 2 by 0;", "sum 0 by 1;"};
        String[] words = {"cut", "few", "join", "sum"};
        for (int n = 0; n < 4; n++) {
            for (String word : words) {
                fine("over wall 0;" + panes[n].repeat(6));
                fault("over wall 0;" + panes[n].repeat(6) + "@" + word, 5);
                fault("over wall 0; fill 0 0;" + panes[n].repeat(6) + "fill 1 1; @" + word + " 9;", 5);
            }
        }
        fine("over wall 0;" + panes[0].repeat(6) + "fill 0 1;".repeat(20));
        fine("over wall 0;" + "fill 0 1;".repeat(20) + panes[0].repeat(6));
        ThroughWindow x = told();
        read(x, 0, "over wall 0;" + panes[0].repeat(6), 0);
        read(x, 1, "over window 0;" + panes[0].repeat(6), 0);
        C.due("panes with those under it", x.look(1, 2), 12);
        read(x, 2, "over window 1;" + panes[0].repeat(6) + "@sum", 5);
    }

    private static void eightColumns() {
        C.part("9: at most 8 COLUMNS at any time; 5 .. the WALL of a join .. by which there are more than 8");
        ThroughWindow x = Hand.walls(Hand.columns(4, 2, 1));
        String seven = "over wall 0; join 0 by 0;";
        read(x, 0, seven, 0);
        C.due("seven", x.look(0, 1), 7);
        read(x, 0, seven + "join 1 by 6;", 0);
        C.due("eight", x.look(0, 1), 8);
        read(x, 0, seven + "join 1 by 0; join @1 by 0;", 5);
        read(x, 0, seven + "join @0 by 0;", 5);
        read(x, 0, seven + "join @0 9;", 5);
        read(x, 0, seven + "join 1 by 0; join 2 by 7; join 2 by 0;", 0);
        C.due("a wall with a key alone brings none", x.look(0, 1), 8);
        read(x, 0, seven + "few 0 1 2 3 4; join 0 by 0;", 0);
        C.due("eight by way of five", x.look(0, 1), 8);
        read(x, 0, seven + "few 0 1 2 3 4 5; join @0 by 0;", 5);
        read(x, 0, seven + "sum 0 by 1; join 0 by 0; join 0 by 0;", 0);
        C.due("eight by way of a sum", x.look(0, 1), 8);
        read(x, 1, "over window 0; join @1 by 0;", 5);
        read(x, 1, "over window 0; few 0 1 2 3 4 5 6; join 1 by 0;", 0);
    }

    private static void columnsOfWhatThereIsThen() {
        C.part("9: C: a COLUMN of what there is then (from 0)");
        fine("over wall 0; join 1 by 3; cut 5 is 1;");
        fault("over wall 0; join 1 by 3; cut @6 is 1;", 4);
        fault("over wall 0; join 1 by @4;", 4);
        fine("over wall 0; few 1 2; cut 1 is 1;");
        fault("over wall 0; few 1 2; cut @2 is 1;", 4);
        fine("over wall 0; sum 1 by 2; cut 1 is 1;");
        fault("over wall 0; sum 1 by 2; few 0 @2;", 4);
        fault("over wall 0; few 3; sum 0 by @1;", 4);
        ThroughWindow x = told();
        read(x, 0, "over wall 0; few 3 1;", 0);
        read(x, 1, "over window 0; cut 1 is 1;", 0);
        read(x, 1, "over window 0; cut @2 is 1;", 4);
        read(x, 1, "over window 0; join 1 by 1; few 3 2;", 0);
    }

    private static void faultsLeaveAll() {
        C.part("9: its FAULT (all stays then)");
        ThroughWindow x = Hand.walls(Hand.columns(2, 2), Hand.row(0, 1, 5), Hand.row(0, 2, 6), Hand.row(1, 5, 3));
        read(x, 1, "over wall 0; cut 1 less 6; fill 0 9; few 1;", 0);
        read(x, 2, "over window 1;", 0);
        read(x, 3, "over wall 0; fill 0 8; cut 1 more 5; few 1;", 0);
        read(x, 3, "@", 1);
        read(x, 3, "over wall 1; fill 0 7; few 0; cut 0 is 5; @x", 1);
        read(x, 3, "over window @3;", 4);
        read(x, 3, "over window @0;", 2);
        read(x, 3, "over window 1; join @2 by 0;", 2);
        read(x, 3, "over wall 0; join 1 by 1; sum 1 by 2; fill 0 3;@;", 1);
        read(x, 5, "over wall 0; fill 0 3; cut 0 @;", 1);
        C.due("what is seen stays", Hand.shown(x, 3), "6");
        C.due("columns", x.look(3, 1), 1);
        C.due("panes", x.look(3, 2), 2);
        C.due("base", x.look(3, 3), 0);
        C.due("walls", x.look(3, 4), 1);
        C.due("a window that was not told is not", x.look(5, 0), -1);
        C.due("told", x.count(3), 3);
        x.draft(0, 7);
        C.due("row 1 comes into sight, or one comes", x.ways(3, 2, 0, 0, 0), 2);
        C.due("its fill stays", Hand.wayOf(x, Hand.edit(3, 2, 0, 0, 0), 1), "2 3 0 8 -1 -1");
        C.due("rows stay", Hand.held(x, 0), "1 5, 2 6");
        C.due("it is over no window", Hand.tell(x, 1, "over wall 0;"), -1);
        read(x, 2, "over wall 0;", 0);
        C.due("it is over no window", Hand.tell(x, 1, "over wall 0;"), 0);
    }

    private static void noSuchWindow() {
        C.part("9: -1: no such number");
        ThroughWindow x = told();
        for (int window : new int[] {-1, 6, 7, MIN, MAX}) {
            C.due("window " + window, Hand.tell(x, window, "over wall 0;"), -1);
            C.due("with a fault", Hand.tell(x, window, "wall"), -1);
            C.due("with nothing", x.window(window), -1);
        }
        C.due("none told", x.count(3), 0);
        for (int window = 0; window < 6; window++) {
            C.due("window " + window, Hand.tell(x, window, "over wall 0;"), 0);
        }
    }

    private static void underAnother() {
        C.part("9: -1: another one is over it");
        ThroughWindow x = told();
        read(x, 0, "over wall 0;", 0);
        read(x, 1, "over window 0;", 0);
        read(x, 4, "over window 1;", 0);
        C.due("one is over it", Hand.tell(x, 0, "over wall 1;"), -1);
        C.due("one is over it", Hand.tell(x, 1, "over wall 1;"), -1);
        C.due("as it is now, too", Hand.tell(x, 1, "over window 0;"), -1);
        C.due("its fault is not asked", Hand.tell(x, 0, "wall"), -1);
        C.due("all stays", x.look(0, 3) + x.look(1, 3) + x.look(4, 3), 0);
        read(x, 4, "over window @5;", 4);
        C.due("a fault leaves it over that", Hand.tell(x, 1, "over wall 1;"), -1);
        read(x, 4, "over window 0;", 0);
        read(x, 1, "over wall 1;", 0);
        C.due("another one is over it still", Hand.tell(x, 0, "over wall 1;"), -1);
        read(x, 4, "over window 1;", 0);
        read(x, 0, "over wall 1;", 0);
        C.due("base", x.look(0, 3), 1);
    }
}
