/** Promises 6 to 10. */
public final class WordsTest {
    private static final int MIN = Integer.MIN_VALUE, MAX = Integer.MAX_VALUE;
    private static final String[] FIXED = {"the", "a", "an", "and", "then", "tell", "to", "again", "it", "him",
        "her", "them", "me", "myself", "yourself", "his", "its", "their", "my", "all", "but"};

    public static void main(String[] args) {
        feed();
        word();
        wordsAreFull();
        name();
        form();
        same();
        Check.end();
    }

    /** Promise 6. */
    private static void feed() {
        PronounOrders x = new PronounOrders();
        for (int bad : new int[] {0, -1, 9, MIN, MAX}) {
            Check.due("feed(" + bad + ")", x.feed(bad, 97), -1);
        }
        Check.due("feed 1", x.feed(1, Check.packed("axxxxxxx")), 1);
        Check.due("feed 3", x.feed(3, Check.packed("bcdxxxxx")), 4);
        Check.due("the tape", x.count(2), 4);
        Check.due("word abcd", x.word(1), 0);
        Check.due("the tape is empty", x.count(2), 0);
        Check.reads(x, "abcd", 1);
        for (int i = 1; i <= 24; i++) {
            Check.due("feed " + i, x.feed(8, Check.packed("        ")), 8 * i);
        }
        Check.due("feed 4 more", x.feed(4, Check.packed("abcd")), 196);
        Check.due("feed to 201", x.feed(5, -1), -3);
        Check.due("feed 9 of a full one", x.feed(9, -1), -1);
        Check.due("nothing of it came", x.count(2), 196);
        Check.due("feed to 200", x.feed(4, Check.packed(". . ")), 200);
        Check.due("feed to 201", x.feed(1, -1), -3);
        Check.due("a line of 200", x.line(), 1);
        Check.due("feed high bytes", x.feed(8, -1L), 8);
        Check.due("they are no letters", x.line(), -10);
        Check.due("their fault", x.fault(), 1);
    }

    /** Promise 7. */
    private static void word() {
        PronounOrders x = new PronounOrders();
        for (int bad : new int[] {-1, 4, MIN, MAX}) {
            Check.due("sort " + bad, Check.word(x, "ok", bad), -1);
            Check.due("the tape is empty then", x.count(2), 0);
        }
        String[] wrong = {"", "abcdefghi", "Ok", "o k", "ok ", " ok", "o1", "ok.", "o,k", "{", "`", "@", "[", "\u00e9", "a\0"};
        for (String letters : wrong) {
            Check.due("word '" + letters + "'", Check.word(x, letters, 0), -1);
            Check.due("the tape is empty then", x.count(2), 0);
        }
        for (String letters : FIXED) {
            Check.due("fixed '" + letters + "'", Check.word(x, letters, 0), -1);
        }
        Check.due("no words", x.count(1), 0);
        Check.due("word a name", Check.word(x, "abcdefgh", 0), 0);
        Check.due("word a verb", Check.word(x, "z", 1), 1);
        Check.due("word a preposition", Check.word(x, "az", 2), 2);
        Check.due("word polite", Check.word(x, "thee", 3), 3);
        Check.due("told already", Check.word(x, "z", 1), -2);
        Check.due("told already, of another sort", Check.word(x, "z", 0), -2);
        Check.due("the tape is empty then", x.count(2), 0);
        Check.due("told already, of no sort", Check.word(x, "z", 4), -1);
        Check.due("a beginning of one", Check.word(x, "abcdefg", 0), 4);
        Check.due("words", x.count(1), 5);
    }

    private static void wordsAreFull() {
        PronounOrders x = new PronounOrders();
        for (int i = 0; i < 60; i++) {
            String letters = "w" + (char) ('a' + i / 26) + (char) ('a' + i % 26);
            Check.due("word " + i, Check.word(x, letters, i % 4), i);
        }
        Check.due("word 60", Check.word(x, "more", 0), -3);
        Check.due("the tape is empty then", x.count(2), 0);
        Check.due("told already ahead of full", Check.word(x, "waa", 0), -2);
        Check.due("fixed ahead of full", Check.word(x, "the", 0), -1);
        Check.due("words", x.count(1), 60);
        Check.due("the last one", x.form(57, 3), 0);
        Check.due("none behind it", x.form(60, 3), -1);
    }

    /** Promise 8. */
    private static void name() {
        PronounOrders x = Check.world();
        Check.due("lamp is a noun of 1", x.name(7, 1, 0), -2);
        Check.due("lamp as an adjective of 1", x.name(7, 1, 1), 0);
        Check.due("lamp as an adjective of 1 again", x.name(7, 1, 1), -2);
        Check.reads(x, "take lamp lamp", 1);
        Check.due("red as a noun of 5", x.name(12, 5, 0), 0);
        Check.reads(x, "take red", 1);
        Check.order(x, 0, "0 0 -4 [5] []");
        Check.due("tom is the player too", x.name(14, 0, 0), 0);
        Check.fails(x, "take tom", 5, 5, 0);
        int[][] bad = {{-1, 1, 0}, {18, 1, 0}, {0, 1, 0}, {4, 1, 0}, {6, 1, 0}, {16, 2, 0}, {7, -1, 0}, {7, 8, 0},
            {7, -4, 0}, {7, 2, -1}, {7, 2, 2}, {7, 1, 2}, {MIN, 1, 0}, {MAX, 1, 0}, {7, MIN, 0}, {7, MAX, 0}, {7, 2, MIN},
            {7, 2, MAX}};
        for (int[] call : bad) {
            Check.due("name(" + call[0] + ", " + call[1] + ", " + call[2] + ")", x.name(call[0], call[1], call[2]), -1);
        }
        Check.reads(x, "take lamp", 1);
        Check.order(x, 0, "0 0 -4 [1] []");
        firstWordIsName();
    }

    private static void firstWordIsName() {
        PronounOrders x = new PronounOrders();
        x.thing(0);
        Check.due("word 0, a name", Check.word(x, "old", 0), 0);
        Check.due("word 1, a verb", Check.word(x, "take", 1), 1);
        x.form(1, 1);
        Check.due("an adjective of 1", x.name(0, 1, 1), 0);
        Check.due("an adjective of 1 again", x.name(0, 1, 1), -2);
        Check.fails(x, "take old", 4, 5, 0);
        Check.due("a noun of 1", x.name(0, 1, 0), 0);
        Check.due("a noun of 1 again", x.name(0, 1, 0), -2);
        Check.reads(x, "take old old", 1);
        Check.due("a noun of the player", x.name(0, 0, 0), 0);
        Check.fails(x, "take old", 5, 5, 0);
        Check.fails(x, "take old old", 5, 5, 0);
    }

    /** Promise 9. */
    private static void form() {
        PronounOrders x = Check.world();
        Check.due("look's form", x.form(2, 1), 0);
        Check.fails(x, "look", 3, 4, 0);
        Check.due("look's form", x.form(2, 2), 1);
        Check.reads(x, "look lamp in red box", 1);
        Check.fails(x, "look lamp", 3, 9, 0);
        Check.due("look's form", x.form(2, 3), 2);
        Check.reads(x, "look lamp in red box. look lamp", 2);
        Check.due("look's form", x.form(2, 0), 3);
        Check.reads(x, "look", 1);
        int[][] bad = {{-1, 0}, {18, 0}, {4, 0}, {6, 0}, {7, 0}, {15, 0}, {2, -1}, {2, 4}, {MIN, 0}, {MAX, 0},
            {2, MIN}, {2, MAX}};
        for (int[] call : bad) {
            Check.due("form(" + call[0] + ", " + call[1] + ")", x.form(call[0], call[1]), -1);
        }
        Check.due("look's form stays", x.form(2, 0), 0);
    }

    /** Promise 10. */
    private static void same() {
        PronounOrders x = Check.world();
        int hold = Check.word(x, "hold", 1);
        int kindly = Check.word(x, "kindly", 3);
        int thing = Check.word(x, "thing", 0);
        int[][] bad = {{hold, hold}, {2, hold}, {hold, thing}, {hold, 7}, {hold, 4}, {kindly, 5}, {thing, 16}, {hold, 15},
            {-1, -2}, {-1, -4}, {-3, -4}, {hold, -1}, {21, 0}, {hold, -4}, {MAX, 0}, {hold, MIN}, {0, 0}, {15, 16}, {7, 0}, {0, MAX}};
        for (int[] call : bad) {
            Check.due("same(" + call[0] + ", " + call[1] + ")", x.same(call[0], call[1]), -1);
        }
        Check.due("get is one already", x.same(15, 1), -2);
        Check.due("get is that already", x.same(15, 0), -2);
        Check.due("box is a noun", x.same(8, 7), -2);
        Check.due("on as in", x.same(5, 4), 0);
        Check.due("put has a form", x.same(1, 0), -2);
        Check.due("red is an adjective", x.same(12, 11), -2);
        Check.due("coins is a noun", x.same(11, 10), -2);
        Check.due("look", x.same(2, 0), 0);
        Check.reads(x, "look lamp", 1);
        Check.order(x, 0, "0 0 -4 [1] []");
        Check.due("hold as put", x.same(hold, 1), 0);
        Check.reads(x, "hold the lantern on red box", 1);
        Check.order(x, 0, "0 1 4 [1] [2]");
        Check.due("kindly as please", x.same(kindly, 6), 0);
        Check.reads(x, "kindly get kindly the kindly lantern kindly", 1);
        Check.order(x, 0, "0 0 -4 [1] []");
        Check.due("lantern's names stay lamp's", x.name(7, 6, 0), 0);
        Check.fails(x, "take lantern", 5, 5, 0);
        int a = Check.word(x, "aa", 1);
        int b = Check.word(x, "bb", 1);
        int c = Check.word(x, "cc", 1);
        Check.due("c as b", x.same(c, b), 0);
        Check.due("b as a, but c is as b", x.same(b, a), -2);
        Check.due("a form above 0, then 0", x.form(a, 2), 0);
        Check.due("a as put", x.same(a, 1), -2);
        Check.due("form 0", x.form(a, 0), 2);
        Check.due("a as put", x.same(a, 1), 0);
    }
}
