/** The document's greatest numbers: 24 things, 60 words, 200 bytes, ten ORDERS; and lines that are all of one token. */
public final class LimitsTest {
    public static void main(String[] args) {
        allThings();
        allWords();
        tokensAlone();
        ordersByAnd();
        lettersAtTheEnds();
        butLeavesNoTrace();
        Check.end();
    }

    private static PronounOrders crowd() {
        PronounOrders x = new PronounOrders();
        for (int i = 1; i < 24; i++) {
            x.thing(i == 23 ? 2 : 0);
        }
        Check.word(x, "take", 1);
        Check.word(x, "put", 1);
        Check.word(x, "in", 2);
        Check.word(x, "last", 0);
        Check.word(x, "eve", 0);
        x.form(0, 1);
        x.form(1, 2);
        x.name(3, 22, 0);
        x.name(4, 23, 0);
        return x;
    }

    private static void allThings() {
        PronounOrders x = crowd();
        String all = "22,0,23,1,2,3,4,5,6,7,8,9,10,11,12,13,14,15,16,17,18,19,20,21";
        Check.reads(x, "take last, me, eve, all", 1);
        Check.order(x, 0, "0 0 -4 [" + all + "] []");
        Check.table(x, "[] [] [] [" + all + "]");
        Check.reads(x, "eve, put them in them, all, them but last", 1);
        Check.order(x, 0, "23 1 2 [" + all + "] [" + all.substring(3) + "]");
        Check.reads(x, "again", 1);
        Check.order(x, 0, "23 1 2 [" + all + "] [" + all.substring(3) + "]");
        x.own(22, 23);
        x.own(23, 22);
        Check.reads(x, "take her last. take its eve", 2);
        Check.order(x, 1, "0 0 -4 [23] []");
        x.see(23, false);
        Check.fails(x, "take eve", 4, 5, 0);
        Check.fails(x, "take her", 7, 5, 0);
        x.see(23, true);
        Check.reads(x, "eve, take last but eve", 1);
        Check.fails(x, "take all, me, eve but all, them, me, her", 4, 18, 0);
    }

    private static void allWords() {
        PronounOrders x = crowd();
        for (int i = x.count(1); i < 60; i++) {
            Check.due("word " + i, Check.word(x, "w" + (char) ('a' + i / 26) + (char) ('a' + i % 26), i == 59 ? 1 : 0), i);
        }
        x.form(59, 1);
        x.name(58, 23, 0);
        Check.reads(x, "wch last", 1);
        Check.order(x, 0, "0 59 -4 [22] []");
        Check.due("the last verb has a form", x.same(59, 0), -2);
        x.form(59, 0);
        Check.due("the last verb as the first", x.same(59, 0), 0);
        Check.reads(x, "wch wcg", 1);
        Check.order(x, 0, "0 0 -4 [23] []");
    }

    private static void tokensAlone() {
        PronounOrders x = crowd();
        Check.reads(x, ".".repeat(200), 0);
        Check.reads(x, "then.".repeat(40), 0);
        Check.fails(x, ",".repeat(200), 3, 0, 0);
        Check.fails(x, "take " + "a ".repeat(97), 3, 7, 0);
        Check.reads(x, "take last" + ",last".repeat(38), 1);
        Check.reads(x, "take " + "last ".repeat(39), 1);
        Check.reads(x, "take last" + " ".repeat(191), 1);
        Check.fails(x, "take" + " ".repeat(196), 3, 200, 0);
        Check.fails(x, "take " + "x".repeat(195), 2, 5, 0);
        Check.fails(x, " ".repeat(199) + "!", 1, 199, 0);
        Check.fails(x, " ".repeat(199) + "x", 2, 199, 0);
    }

    private static void ordersByAnd() {
        PronounOrders x = Check.world();
        Check.reads(x, "look" + " and look".repeat(9), 10);
        Check.fails(x, "look" + " and look".repeat(10), 9, 90, 10);
        Check.fails(x, "tom, look" + " and look".repeat(15), 9, 95, 10);
        Check.fails(x, "look. again. look" + " and look".repeat(8), 9, 85, 10);
        Check.fails(x, "look" + " and look".repeat(9) + " and again", 3, 86, 9);
    }

    private static void lettersAtTheEnds() {
        PronounOrders x = new PronounOrders();
        Check.due("word az", Check.word(x, "az", 1), 0);
        Check.due("word zzzzzzzz", Check.word(x, "zzzzzzzz", 1), 1);
        Check.due("word aaaaaaaa", Check.word(x, "aaaaaaaa", 1), 2);
        Check.reads(x, "AZ.ZZZZZZZZZZ.AAAAAAAAA.aZ.Az", 5);
        Check.order(x, 1, "0 1 -4 [] []");
        Check.order(x, 2, "0 2 -4 [] []");
        Check.fails(x, "aaaaaaa", 2, 0, 0);
        Check.fails(x, "ZZZZZZZ", 2, 0, 0);
    }

    /** What but has taken away need not be SEEN any more. */
    private static void butLeavesNoTrace() {
        PronounOrders x = Check.world();
        Check.reads(x, "take lamp, coins, bob but bob", 1);
        x.see(3, false);
        Check.reads(x, "again. take them", 2);
        Check.order(x, 1, "0 0 -4 [1,5] []");
        x.own(2, 3);
        x.own(6, 5);
        Check.reads(x, "take their box", 1);
        Check.order(x, 0, "0 0 -4 [6] []");
    }
}
