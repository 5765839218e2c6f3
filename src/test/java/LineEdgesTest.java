/** The boundary cases of promises 11 to 16, sentence by sentence. */
public final class LineEdgesTest {
    private static final int MIN = Integer.MIN_VALUE, MAX = Integer.MAX_VALUE;
    private static final int[] NO_ORDER = {-1, -4, 10, 11, 32, 256, MIN, MAX};

    public static void main(String[] args) {
        lineTape();
        lineCounts();
        linePlaces();
        ordersStay();
        faultNone();
        faultEach();
        orderAnswers();
        orderRefused();
        orderSameWords();
        givenAnswers();
        givenRefused();
        tableAnswers();
        tableRefused();
        countAnswers();
        countRefused();
        lastCalls();
        Check.end();
    }

    private static void lineTape() {
        Check.sentence("11: The TAPE, which is empty then, is a LINE");
        PronounOrders x = Check.world();
        Check.due("a line of nothing", x.line(), 0);
        Check.due("the tape", x.count(2), 0);
        String[] texts = {"look", "look?", "xyzzy", "take", " ", ""};
        int[] due = {1, -14, -10, -14, 0, 0};
        for (int i = 0; i < texts.length; i++) {
            Check.due("'" + texts[i] + "'", Check.line(x, texts[i]), due[i]);
            Check.due("the tape", x.count(2), 0);
            Check.due("the next line is empty", x.line(), 0);
        }
        Check.due("a word behind a fault", Check.word(x, "hold", 1), 18);
        Check.feed(x, "hold");
        Check.due("told already: the tape is empty", x.word(1), -2);
        Check.due("so is the line", x.line(), 0);
        Check.feed(x, " ".repeat(196) + "look");
        Check.due("a full tape", x.line(), 1);
        Check.due("the tape", x.count(2), 0);
    }

    private static void lineCounts() {
        Check.sentence("11: how many ORDERS");
        PronounOrders x = Check.world();
        for (int orders = 0; orders <= 10; orders++) {
            Check.reads(x, "look.".repeat(orders), orders);
        }
        Check.reads(x, "look" + " and look".repeat(9), 10);
        Check.reads(x, "look" + " then again".repeat(9), 10);
        Check.fails(x, "look.".repeat(11), 9, 50, 10);
        Check.fails(x, "look.".repeat(40), 9, 50, 10);
    }

    private static void linePlaces() {
        Check.sentence("11: -10 less the place of THE FAULT");
        PronounOrders x = Check.world();
        Check.due("place 0", Check.line(x, "xyzzy"), -10);
        Check.due("place 1", Check.line(x, " xyzzy"), -11);
        Check.due("place 4, the end", Check.line(x, "take"), -14);
        Check.due("place 199", Check.line(x, " ".repeat(199) + "q"), -209);
        Check.due("place 199, no letter", Check.line(x, " ".repeat(199) + "?"), -209);
        Check.due("place 200, the end", Check.line(x, " ".repeat(196) + "take"), -210);
        Check.due("place 200, the end", Check.line(x, "take" + " ".repeat(196)), -210);
    }

    private static void ordersStay() {
        Check.sentence("11: (the ORDERS before it stay)");
        PronounOrders x = Check.world();
        Check.failsAt(x, "take lamp. bob, take coins and put lamp in red box and take ^xyzzy", 2, 3);
        Check.order(x, 0, "0 0 -4 [1] []");
        Check.order(x, 1, "3 0 -4 [5] []");
        Check.order(x, 2, "3 1 4 [1] [2]");
        Check.due("none for the one with the fault", x.order(3, 0), -1);
        Check.table(x, "[2] [3] [] [5]");
        Check.due("orders of all lines", x.count(4), 3);
        Check.reads(x, "again", 1);
        Check.order(x, 0, "3 1 4 [1] [2]");
        Check.failsAt(x, "look. take lamp. look^!", 1, 0);
        Check.due("none ahead of a strange byte", x.order(0, 0), -1);
        Check.due("orders of all lines", x.count(4), 4);
        Check.reads(x, "again", 1);
        Check.order(x, 0, "3 1 4 [1] [2]");
    }

    private static void faultNone() {
        Check.sentence("12: 0: none, or no line.");
        PronounOrders x = Check.world();
        Check.due("no line", x.fault(), 0);
        Check.due("a line without a fault", Check.line(x, "look"), 1);
        Check.due("none", x.fault(), 0);
        Check.due("a line with one", Check.line(x, "xyzzy"), -10);
        Check.due("an empty line", x.line(), 0);
        Check.due("none", x.fault(), 0);

        Check.sentence("12: THE FAULT of the latest line");
        Check.due("a line with one", Check.line(x, "take"), -14);
        int[] others = {x.thing(9), x.see(1, true), x.own(1, 0), x.turn(1, 0), x.feed(0, 0), x.word(0), x.name(0, 0, 0),
            x.form(0, 1), x.same(0, 0), x.order(0, 0), x.given(0, 0, 0), x.table(0, 0), x.count(0), x.fault()};
        Check.due("the calls", others.length, 14);
        Check.due("it stays", x.fault(), 3);
        Check.due("the next one's", Check.line(x, "take void"), -15);
        Check.due("is another one", x.fault(), 2);
    }

    private static void faultEach() {
        Check.sentence("12: THE FAULT");
        PronounOrders x = Check.world();
        String[] lines = {"^?", "^xyzzy", "^and", "take ^red", "take ^box", "take ^it", "", "^me, look", "look.".repeat(10) + "^look"};
        for (int fault = 1; fault <= 9; fault++) {
            if (fault == 7) {
                Check.reads(x, "take lamp", 1);
                x.see(1, false);
                Check.failsAt(x, "take ^it", 7, 0);
            } else {
                Check.failsAt(x, lines[fault - 1], fault, fault == 9 ? 10 : 0);
            }
        }
    }

    private static void orderAnswers() {
        Check.sentence("13: 0 THE ACTOR, 1 the VERB's word, 2 the PREPOSITION's (NONE), 3 how many things, 4 how many behind the PREPOSITION.");
        PronounOrders x = Check.world();
        Check.reads(x, "look. ann, put lamp, coins, tom on red box and blue box", 2);
        int[][] due = {{0, 2, -4, 0, 0}, {4, 1, 5, 3, 2}};
        for (int i = 0; i < 2; i++) {
            for (int what = 0; what < 5; what++) {
                Check.due("order(" + i + ", " + what + ")", x.order(i, what), due[i][what]);
            }
        }
        Check.reads(x, "look.".repeat(9) + "tom, take lamp", 10);
        Check.order(x, 8, "0 2 -4 [] []");
        Check.order(x, 9, "7 0 -4 [1] []");
        PronounOrders y = new PronounOrders();
        Check.word(y, "in", 2);
        Check.word(y, "put", 1);
        y.form(1, 2);
        Check.reads(y, "put me in me", 1);
        Check.order(y, 0, "0 1 0 [0] [0]");
    }

    private static void orderRefused() {
        Check.sentence("13: BAD: none such, or what.");
        PronounOrders x = Check.world();
        Check.reads(x, "look. put lamp in red box", 2);
        for (int i : NO_ORDER) {
            Check.due("order(" + i + ", 0)", x.order(i, 0), -1);
            Check.due("order(" + i + ", 2)", x.order(i, 2), -1);
            Check.due("order(" + i + ", 5)", x.order(i, 5), -1);
        }
        Check.due("one behind the last", x.order(2, 0), -1);
        for (int what : new int[] {-1, 5, -4, 6, 256, MIN, MAX}) {
            Check.due("order(0, " + what + ")", x.order(0, what), -1);
            Check.due("order(1, " + what + ")", x.order(1, what), -1);
            Check.due("order(2, " + what + ")", x.order(2, what), -1);
        }
        Check.reads(x, "look", 1);
        Check.due("one of the line before", x.order(1, 0), -1);
        Check.reads(x, "", 0);
        Check.due("one of the line before", x.order(0, 0), -1);
        Check.fails(x, "look.".repeat(11), 9, 50, 10);
        Check.due("the tenth", x.order(9, 1), 2);
        Check.due("the eleventh", x.order(10, 1), -1);
    }

    private static void orderSameWords() {
        Check.sentence("13: (Words that are THE SAME as others: these.)");
        PronounOrders x = Check.world();
        Check.reads(x, "get lantern. use lantern into coins. again", 3);
        Check.order(x, 0, "0 0 -4 [1] []");
        Check.order(x, 1, "0 3 4 [1] [5]");
        Check.order(x, 2, "0 3 4 [1] [5]");
    }

    private static void givenAnswers() {
        Check.sentence("14: Thing k of ORDER i of the latest line (side 0), or behind the PREPOSITION (1)");
        PronounOrders x = Check.world();
        Check.reads(x, "put coins, me, lamp in tom, red box. take ann", 2);
        int[][] due = {{5, 0, 1}, {7, 2}};
        for (int side = 0; side < 2; side++) {
            for (int k = 0; k < due[side].length; k++) {
                Check.due("given(0, " + side + ", " + k + ")", x.given(0, side, k), due[side][k]);
            }
        }
        Check.due("given(1, 0, 0)", x.given(1, 0, 0), 4);
    }

    private static void givenRefused() {
        Check.sentence("14: BAD: none such.");
        PronounOrders x = Check.world();
        Check.reads(x, "put coins, lamp in tom. take ann. look", 3);
        for (int i : NO_ORDER) {
            Check.due("given(" + i + ", 0, 0)", x.given(i, 0, 0), -1);
            Check.due("given(" + i + ", 1, 0)", x.given(i, 1, 0), -1);
        }
        Check.due("an order behind the last", x.given(3, 0, 0), -1);
        for (int side : new int[] {-1, 2, -4, 256, MIN, MAX}) {
            Check.due("given(0, " + side + ", 0)", x.given(0, side, 0), -1);
        }
        for (int k : new int[] {-1, -4, 2, 24, 25, 256, MIN, MAX}) {
            Check.due("given(0, 0, " + k + ")", x.given(0, 0, k), -1);
            Check.due("given(0, 1, " + k + ")", x.given(0, 1, k), -1);
        }
        Check.due("the second behind, of one", x.given(0, 1, 1), -1);
        Check.due("the second, of one", x.given(1, 0, 1), -1);
        Check.due("behind no preposition", x.given(1, 1, 0), -1);
        Check.due("of a verb alone", x.given(2, 0, 0), -1);
        Check.reads(x, "look", 1);
        Check.due("of the line before", x.given(0, 0, 0), -1);
        Check.due("of the line before", x.given(1, 0, 0), -1);
        Check.fails(x, "put coins, lamp in xyzzy", 2, 19, 0);
        Check.due("of one with a fault", x.given(0, 0, 0), -1);
    }

    private static void tableAnswers() {
        Check.sentence("15: The k-th thing that is meant by it (0), him, her, them (3) in THE TABLE");
        PronounOrders x = Check.world();
        Check.reads(x, "take lamp. take bob. take ann. take coins, me, tom", 4);
        int[][] due = {{1}, {3}, {4}, {5, 0, 7}};
        for (int pronoun = 0; pronoun < 4; pronoun++) {
            for (int k = 0; k < due[pronoun].length; k++) {
                Check.due("table(" + pronoun + ", " + k + ")", x.table(pronoun, k), due[pronoun][k]);
            }
            Check.due("none behind the last", x.table(pronoun, due[pronoun].length), -4);
        }
        x.see(5, false);
        Check.due("also one that is not seen", x.table(3, 0), 5);
        Check.due("also what him was before", x.table(1, 0), 3);
    }

    private static void tableRefused() {
        Check.sentence("15: NONE: none such.");
        PronounOrders x = Check.world();
        for (int pronoun = 0; pronoun < 4; pronoun++) {
            Check.due("nothing at first", x.table(pronoun, 0), -4);
        }
        Check.reads(x, "take lamp, coins, tom. take lamp, coins", 2);
        for (int k : new int[] {-1, -4, 2, 3, 24, 25, 256, MIN, MAX}) {
            Check.due("table(3, " + k + ")", x.table(3, k), -4);
            Check.due("table(0, " + k + ")", x.table(0, k), -4);
        }

        Check.sentence("15: BAD: another pronoun.");
        for (int pronoun : new int[] {-1, 4, -4, 256, MIN, MAX}) {
            for (int k : new int[] {-1, 0, 1, 24, MIN, MAX}) {
                Check.due("table(" + pronoun + ", " + k + ")", x.table(pronoun, k), -1);
            }
        }
    }

    private static void countAnswers() {
        Check.sentence("16: 0 things, 1 words, 2 bytes of the TAPE, 3 ORDERS of the latest line, 4 of all lines.");
        PronounOrders x = new PronounOrders();
        counts(x, 1, 0, 0, 0, 0);
        x.thing(0);
        counts(x, 2, 0, 0, 0, 0);
        x.feed(4, Check.packed("look"));
        counts(x, 2, 0, 4, 0, 0);
        x.word(1);
        counts(x, 2, 1, 0, 0, 0);
        Check.feed(x, "look. look");
        counts(x, 2, 1, 10, 0, 0);
        x.line();
        counts(x, 2, 1, 0, 2, 2);
        Check.feed(x, "again. xyzzy");
        counts(x, 2, 1, 12, 2, 2);
        x.line();
        counts(x, 2, 1, 0, 1, 3);
        x.line();
        counts(x, 2, 1, 0, 0, 3);
        Check.line(x, "look.".repeat(11));
        counts(x, 2, 1, 0, 10, 13);
        x.thing(7);
        x.word(7);
        x.feed(9, 0);
        counts(x, 2, 1, 0, 10, 13);
    }

    private static void counts(PronounOrders x, int... due) {
        for (int what = 0; what < due.length; what++) {
            Check.due("count(" + what + ")", x.count(what), due[what]);
        }
    }

    private static void countRefused() {
        Check.sentence("16: BAD: another what.");
        PronounOrders x = Check.world();
        for (int what : new int[] {-1, 5, -4, 6, 256, MIN, MAX}) {
            Check.due("count(" + what + ")", x.count(what), -1);
        }
    }

    private static void lastCalls() {
        Check.sentence("An object is used for at most 512 calls after it has been made");
        PronounOrders x = new PronounOrders();
        Check.word(x, "look", 1);
        for (int i = 0; i < 101; i++) {
            x.feed(8, Check.packed("look.loo"));
            x.feed(8, Check.packed("k.look. "));
            x.feed(7, Check.packed("again. "));
            x.feed(7, Check.packed("again.,"));
            Check.due("four orders and one more", x.line(), -10 - 29);
        }
        // 507 calls so far.
        Check.due("orders of all lines", x.count(4), 505);
        Check.due("things", x.count(0), 1);
        Check.due("fault", x.fault(), 3);
        Check.due("the last order", x.order(4, 1), 0);
        Check.due("call 512", x.order(5, 1), -1);
        // What later calls answer is free, but none may throw.
        for (int i = 0; i < 5000; i++) {
            x.feed(8, Check.packed("look.loo"));
            x.thing(i);
            x.line();
        }
    }
}
