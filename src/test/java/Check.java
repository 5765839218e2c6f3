/** Counts the answers that are not as due, and makes the worlds that the tests share. */
final class Check {
    private static int wrong = 0;
    private static int asked = 0;
    private static String sentence = "";
    private static int askedBefore = 0;

    private Check() {
    }

    static void due(String what, long got, long want) {
        due(what + " answered", String.valueOf(got), String.valueOf(want));
    }

    private static void due(String what, String got, String want) {
        asked++;
        if (!got.equals(want)) {
            wrong++;
            System.out.println((sentence.isEmpty() ? "" : "[" + sentence + "] ") + what + " " + got + ", due is " + want);
        }
    }

    /** What follows tests this sentence of the document: a failure names it, and none may go untested. */
    static void sentence(String words) {
        if (!sentence.isEmpty() && asked == askedBefore) {
            wrong++;
            System.out.println("[" + sentence + "] has no test");
        }
        sentence = words;
        askedBefore = asked;
    }

    static void end() {
        sentence("");
        System.out.println(asked + " answers, " + wrong + " not as due");
        if (wrong != 0 || asked == 0) {
            System.exit(1);
        }
    }

    /** Feeds a text of characters 0 to 255, eight bytes a call. */
    static void feed(PronounOrders x, String text) {
        for (int from = 0; from < text.length(); from += 8) {
            int n = Math.min(8, text.length() - from);
            x.feed(n, packed(text.substring(from, from + n)));
        }
    }

    static long packed(String text) {
        long bytes = 0;
        for (int i = text.length() - 1; i >= 0; i--) {
            bytes = bytes << 8 | text.charAt(i) & 255;
        }
        return bytes;
    }

    static int word(PronounOrders x, String letters, int sort) {
        feed(x, letters);
        return x.word(sort);
    }

    static int line(PronounOrders x, String text) {
        feed(x, text);
        return x.line();
    }

    /** A line that is understood: how many ORDERS. */
    static void reads(PronounOrders x, String text, int orders) {
        due("'" + text + "'", line(x, text), orders);
        due("fault of '" + text + "'", x.fault(), 0);
        due("orders of '" + text + "'", x.count(3), orders);
    }

    /** A line with a FAULT at a place; so many ORDERS stay. */
    static void fails(PronounOrders x, String text, int fault, int place, int orders) {
        due("'" + text + "'", line(x, text), -10 - place);
        due("fault of '" + text + "'", x.fault(), fault);
        due("orders of '" + text + "'", x.count(3), orders);
    }

    /** As fails, with a ^ (which is not fed) ahead of the place. */
    static void failsAt(PronounOrders x, String marked, int fault, int orders) {
        int place = marked.indexOf('^');
        fails(x, marked.substring(0, place) + marked.substring(place + 1), fault, place, orders);
    }

    /** ORDER i is: actor, verb, preposition, things before it, things behind it. */
    static void order(PronounOrders x, int i, String want) {
        String got = x.order(i, 0) + " " + x.order(i, 1) + " " + x.order(i, 2)
                + " " + side(x, i, 0) + " " + side(x, i, 1);
        due("order " + i + " is", got, want);
    }

    private static String side(PronounOrders x, int i, int side) {
        StringBuilder found = new StringBuilder("[");
        int size = x.order(i, 3 + side);
        for (int k = 0; k < size; k++) {
            found.append(k == 0 ? "" : ",").append(x.given(i, side, k));
        }
        due("behind the last of side " + side, x.given(i, side, size), PronounOrders.BAD);
        return found.append("]").toString();
    }

    /** What it, him, her, them mean. */
    static void table(PronounOrders x, String want) {
        StringBuilder got = new StringBuilder();
        for (int pronoun = 0; pronoun < 4; pronoun++) {
            got.append(pronoun == 0 ? "[" : " [");
            for (int k = 0; k < 24 && x.table(pronoun, k) != PronounOrders.NONE; k++) {
                got.append(k == 0 ? "" : ",").append(x.table(pronoun, k));
            }
            got.append("]");
        }
        due("the table is", got.toString(), want);
    }

    // Things of the world: 1 lamp, 2 red box, 3 bob, 4 ann, 5 coins, 6 blue box, 7 tom.
    // Words of the world, as numbers: 0 take (things), 1 put (both), 2 look (alone), 3 use (either),
    // 4 in, 5 on, 6 please, 7 lamp, 8 box, 9 bob, 10 ann, 11 coins, 12 red, 13 blue, 14 tom, 15 get, 16 lantern, 17 into.
    static PronounOrders world() {
        PronounOrders x = new PronounOrders();
        int[] kinds = {0, 0, 1, 2, 3, 0, 1};
        for (int kind : kinds) {
            x.thing(kind);
        }
        String[] letters = {"take", "put", "look", "use", "in", "on", "please", "lamp", "box", "bob", "ann",
            "coins", "red", "blue", "tom", "get", "lantern", "into"};
        int[] sorts = {1, 1, 1, 1, 2, 2, 3, 0, 0, 0, 0, 0, 0, 0, 0, 1, 0, 2};
        for (int i = 0; i < letters.length; i++) {
            due("word " + letters[i], word(x, letters[i], sorts[i]), i);
        }
        x.form(0, 1);
        x.form(1, 2);
        x.form(3, 3);
        int[][] names = {{7, 1, 0}, {8, 2, 0}, {8, 6, 0}, {9, 3, 0}, {10, 4, 0}, {11, 5, 0}, {12, 2, 1},
            {12, 1, 1}, {13, 6, 1}, {14, 7, 0}};
        for (int[] name : names) {
            due("name", x.name(name[0], name[1], name[2]), 0);
        }
        due("get as take", x.same(15, 0), 0);
        due("lantern as lamp", x.same(16, 7), 0);
        due("into as in", x.same(17, 4), 0);
        return x;
    }
}
