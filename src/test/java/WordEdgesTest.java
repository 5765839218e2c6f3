/** The boundary cases of the terms' part 2 and of promises 6 to 10, sentence by sentence. */
public final class WordEdgesTest {
    private static final int MIN = Integer.MIN_VALUE, MAX = Integer.MAX_VALUE;
    private static final String[] FIXED = {"the", "a", "an", "and", "then", "tell", "to", "again", "it", "him",
        "her", "them", "me", "myself", "yourself", "his", "its", "their", "my", "all", "but"};
    private static final int[] NO_WORD = {-1, -4, 18, 60, 64, 256, MIN, MAX};

    public static void main(String[] args) {
        words();
        sorts();
        sameInItsPlace();
        feedBytes();
        feedRefused();
        wordTape();
        wordLetters();
        wordFixed();
        wordTold();
        wordFull();
        nameRefused();
        nameTwice();
        formRefused();
        formAtFirst();
        sameBad();
        sameNo();
        sameNoLonger();
        firstOfSeveral();
        Check.end();
    }

    private static String numbered(int i) {
        return "w" + (char) ('a' + i / 26) + (char) ('a' + i % 26);
    }

    private static void words() {
        Check.sentence("WORDS (60) have 1 to 8 letters a .. z");
        PronounOrders x = new PronounOrders();
        Check.due("one letter, the first but a", Check.word(x, "b", 1), 0);
        Check.due("one letter, the last", Check.word(x, "z", 1), 1);
        Check.due("eight letters", Check.word(x, "zzzzzzzz", 1), 2);
        Check.due("eight letters", Check.word(x, "aaaaaaaa", 1), 3);
        Check.due("all of them stand in a line", Check.line(x, "b and z and zzzzzzzz and aaaaaaaa"), 4);
        for (int i = 0; i < 4; i++) {
            Check.due("verb " + i, x.order(i, 1), i);
        }
        for (int i = 4; i < 60; i++) {
            Check.due("word " + i, Check.word(x, numbered(i), 1), i);
        }
        Check.due("words", x.count(1), 60);
        Check.reads(x, numbered(59), 1);
        Check.due("the last one", x.order(0, 1), 59);
    }

    private static void sorts() {
        Check.sentence("A NAME is a NOUN of some things, an ADJECTIVE of some (perhaps none).");
        PronounOrders x = Check.world();
        Check.due("a name of nothing", Check.word(x, "void", 0), 18);
        Check.fails(x, "take void", 4, 5, 0);
        Check.fails(x, "take void lamp", 4, 5, 0);
        Check.fails(x, "take lamp void", 4, 5, 0);
        Check.due("adjective only", x.name(18, 1, 1), 0);
        Check.reads(x, "take void lamp", 1);
        Check.fails(x, "take void", 4, 5, 0);
        Check.fails(x, "take lamp void", 4, 5, 0);
        Check.due("noun, too", x.name(18, 1, 0), 0);
        Check.reads(x, "take void. take lamp void. take void lamp void", 3);
        Check.due("noun of every thing", x.name(18, 2, 0), 0);
        Check.fails(x, "take void", 5, 5, 0);
        Check.reads(x, "take lamp void", 1);

        Check.sentence("A VERB has a FORM: 0 alone; 1 with things; 2 with things, a PREPOSITION, things; 3 as 1 or 2.");
        Check.fails(x, "look lamp", 3, 5, 0);
        Check.fails(x, "take", 3, 4, 0);
        Check.fails(x, "take lamp in coins", 3, 10, 0);
        Check.fails(x, "put lamp", 3, 8, 0);
        Check.fails(x, "put lamp in", 3, 11, 0);
        Check.fails(x, "put in coins", 3, 4, 0);
        Check.fails(x, "use", 3, 3, 0);
        Check.fails(x, "use lamp in", 3, 11, 0);
        Check.reads(x, "look. take lamp. put lamp in coins. use lamp. use lamp in coins", 5);
        Check.order(x, 4, "0 3 4 [1] [5]");
    }

    private static void sameInItsPlace() {
        Check.sentence("then it is as if that stood in its place (it has no NOUNS, FORM of its own)");
        PronounOrders x = Check.world();
        Check.reads(x, "get lantern", 1);
        Check.order(x, 0, "0 0 -4 [1] []");
        Check.due("take's form", x.form(0, 3), 1);
        Check.reads(x, "get lantern into coins", 1);
        Check.order(x, 0, "0 0 4 [1] [5]");
        Check.due("take's form", x.form(0, 0), 3);
        Check.fails(x, "get lantern", 3, 4, 0);
        Check.reads(x, "get", 1);
        x.form(0, 1);
        Check.due("lamp is also the coins", x.name(7, 5, 0), 0);
        Check.fails(x, "take lantern", 5, 5, 0);
        Check.due("lamp as an adjective", x.name(7, 2, 1), 0);
        Check.reads(x, "take lantern box", 1);
        Check.order(x, 0, "0 0 -4 [2] []");
        Check.due("a second one as take", Check.word(x, "grab", 1), 18);
        Check.due("several may be as one", x.same(18, 0), 0);
        Check.reads(x, "grab ann and get ann", 2);
        Check.order(x, 0, "0 0 -4 [4] []");
        Check.due("polite as polite", Check.word(x, "kindly", 3), 19);
        Check.due("kindly as please", x.same(19, 6), 0);
        Check.reads(x, "kindly grab kindly ann kindly", 1);
    }

    private static void feedBytes() {
        Check.sentence("6: The n (1 .. 8) lowest bytes of a number, the lowest one first, come behind the TAPE: how many it has.");
        String letters = "bcdefghi";
        for (int n = 1; n <= 8; n++) {
            PronounOrders x = new PronounOrders();
            long bytes = Check.packed(letters);
            Check.due("feed " + n, x.feed(n, bytes), n);
            Check.due("bytes of the tape", x.count(2), n);
            Check.due("a word", x.word(1), 0);
            Check.reads(x, letters.substring(0, n), 1);
            Check.due("no more than that", Check.line(x, letters.substring(0, n - 1) + "z"), -10);
            Check.due("feed with all higher bits set", x.feed(n, n == 8 ? bytes : bytes | -1L << 8 * n), n);
            Check.due("told already", x.word(1), -2);
        }
        PronounOrders x = new PronounOrders();
        Check.due("one", x.feed(1, 'l'), 1);
        Check.due("behind it", x.feed(2, Check.packed("oo")), 3);
        Check.due("behind these", x.feed(1, 'k'), 4);
        Check.due("look", x.word(1), 0);
        Check.reads(x, "look", 1);
        Check.due("the greatest number", x.feed(8, Long.MAX_VALUE), 8);
        Check.due("its first byte is 255", x.line(), -10);
        Check.due("the smallest number", x.feed(8, Long.MIN_VALUE), 8);
        Check.due("its first byte is 0", x.line(), -10);
        Check.due("the eighth byte alone", x.feed(8, Long.MIN_VALUE | Check.packed("look   ")), 8);
        Check.due("is the strange one", x.line(), -17);
        Check.due("minus one", x.feed(1, -1), 1);
        Check.due("is one strange byte", x.line(), -10);
    }

    private static void feedRefused() {
        Check.sentence("6: BAD: n.");
        PronounOrders x = new PronounOrders();
        int[] bad = {0, 9, -1, 16, 256, 257, MIN, MAX, MIN + 1};
        for (int n : bad) {
            Check.due("feed(" + n + ")", x.feed(n, Check.packed("look")), -1);
            Check.due("nothing came", x.count(2), 0);
        }

        Check.sentence("6: FULL: more than 200.");
        for (int i = 1; i <= 24; i++) {
            Check.due("feed 8", x.feed(8, Check.packed("        ")), 8 * i);
        }
        Check.due("feed 7", x.feed(7, Check.packed("  look ")), 199);
        for (int n = 2; n <= 8; n++) {
            Check.due("199 and " + n, x.feed(n, -1), -3);
            Check.due("nothing came", x.count(2), 199);
        }
        Check.due("199 and 1", x.feed(1, '!'), 200);
        for (int n = 1; n <= 8; n++) {
            Check.due("200 and " + n, x.feed(n, -1), -3);
        }
        for (int n : bad) {
            Check.due("feed(" + n + ") of a full one: the first one here", x.feed(n, 32), -1);
        }
        Check.due("bytes of the tape", x.count(2), 200);
        Check.due("the last byte is the one that came", x.line(), -209);
        Check.due("empty then", x.feed(8, 0), 8);
        PronounOrders y = new PronounOrders();
        for (int i = 1; i <= 25; i++) {
            Check.due("feed 8", y.feed(8, Check.packed("        ")), 8 * i);
        }
        Check.due("200 of eights", y.line(), 0);
    }

    private static void wordTape() {
        Check.sentence("7: The TAPE, which is empty then, is a WORD of a SORT: its number.");
        PronounOrders x = new PronounOrders();
        for (int sort = 0; sort < 4; sort++) {
            Check.due("a word", Check.word(x, numbered(sort), sort), sort);
            Check.due("empty then", x.count(2), 0);
        }
        int[] refused = {Check.word(x, "no", 4), x.count(2), Check.word(x, "No", 0), x.count(2), Check.word(x, "the", 0),
            x.count(2), Check.word(x, numbered(0), 0), x.count(2), Check.word(x, "x".repeat(200), 0), x.count(2)};
        int[] due = {-1, 0, -1, 0, -1, 0, -2, 0, -1, 0};
        for (int i = 0; i < due.length; i++) {
            Check.due("a refused word, and the tape then, " + i, refused[i], due[i]);
        }
        Check.due("what was refused leaves nothing on the tape", Check.word(x, "ok", 1), 4);
        Check.reads(x, "ok", 1);

        Check.sentence("7: BAD: the SORT");
        for (int sort : new int[] {-1, 4, -4, 5, 256, MIN, MAX}) {
            Check.due("sort " + sort, Check.word(x, "fresh", sort), -1);
        }
        Check.due("words", x.count(1), 5);
        Check.due("of a sort", Check.word(x, "fresh", 3), 5);
    }

    private static void wordLetters() {
        Check.sentence("7: it is not 1 to 8 letters a .. z alone");
        PronounOrders x = new PronounOrders();
        // Beside the letters: ` and { are next to a and z; 225 is a with the highest bit.
        String[] wrong = {"", "bbbbbbbbb", "x".repeat(16), "x".repeat(200), "B", "bB", "Bb", "Z", "`", "{", "b`", "{b", "@", "[",
            " ", "b ", " b", "b c", "b,", ".b", "b1", "0", "-", "b-c", "\u00e1", "b\u00fa", "\u00ff", "\0", "b\0", "\0b", "b\n"};
        for (String letters : wrong) {
            Check.due("'" + letters + "'", Check.word(x, letters, 0), -1);
            Check.due("the tape", x.count(2), 0);
        }
        Check.due("no words", x.count(1), 0);
        Check.due("one", Check.word(x, "b", 0), 0);
        Check.due("eight", Check.word(x, "bbbbbbbb", 0), 1);
        Check.due("seven", Check.word(x, "bbbbbbb", 0), 2);
        Check.due("a to z", Check.word(x, "az", 0), 3);
    }

    private static void wordFixed() {
        Check.sentence("7: or FIXED");
        PronounOrders x = new PronounOrders();
        for (String letters : FIXED) {
            for (int sort = 0; sort < 4; sort++) {
                Check.due("'" + letters + "'", Check.word(x, letters, sort), -1);
            }
        }
        Check.due("no words", x.count(1), 0);
        String[] free = {"i", "he", "she", "we", "you", "hers", "theirs", "yours", "your", "himself", "yoursel", "yourselv",
            "or", "al", "bu", "aa", "ann", "ands", "tells", "too", "item", "mya", "alls", "ana", "thee", "the".repeat(2)};
        for (int i = 0; i < free.length; i++) {
            Check.due("'" + free[i] + "'", Check.word(x, free[i], 1), i);
        }
    }

    private static void wordTold() {
        Check.sentence("7: NO: it is told already.");
        PronounOrders x = Check.world();
        for (int sort = 0; sort < 4; sort++) {
            Check.due("take", Check.word(x, "take", sort), -2);
            Check.due("lantern, which is the same as another one", Check.word(x, "lantern", sort), -2);
            Check.due("please", Check.word(x, "please", sort), -2);
        }
        Check.due("words", x.count(1), 18);
        Check.reads(x, "please take lantern", 1);
        Check.due("a beginning of one", Check.word(x, "tak", 0), 18);
        Check.due("one that goes on", Check.word(x, "takes", 0), 19);
        Check.due("told already, of no sort: the first one here", Check.word(x, "take", 4), -1);
    }

    private static void wordFull() {
        Check.sentence("7: FULL.");
        PronounOrders x = new PronounOrders();
        for (int i = 0; i < 60; i++) {
            Check.due("word " + i, Check.word(x, numbered(i), i % 4), i);
        }
        for (int sort = 0; sort < 4; sort++) {
            Check.due("a 61st word", Check.word(x, "more", sort), -3);
            Check.due("the tape", x.count(2), 0);
        }
        Check.due("words", x.count(1), 60);
        Check.fails(x, "more", 2, 0, 0);
        Check.due("no sort: the first one here", Check.word(x, "more", 4), -1);
        Check.due("no letters: the first one here", Check.word(x, "", 0), -1);
        Check.due("fixed: the first one here", Check.word(x, "but", 0), -1);
        Check.due("told already: the first one here", Check.word(x, numbered(59), 0), -2);
        Check.reads(x, numbered(57), 1);
    }

    private static void nameRefused() {
        Check.sentence("8: BAD: no such word that is a NAME");
        PronounOrders x = Check.world();
        for (int word : NO_WORD) {
            Check.due("name(" + word + ", 1, 0)", x.name(word, 1, 0), -1);
        }
        for (int word : new int[] {0, 1, 2, 3, 4, 5, 6, 15, 17}) {
            Check.due("name(" + word + ", 1, 0)", x.name(word, 1, 0), -1);
            Check.due("name(" + word + ", 1, 1)", x.name(word, 1, 1), -1);
        }

        Check.sentence("8: (and not THE SAME as another one)");
        Check.due("lantern as a noun", x.name(16, 2, 0), -1);
        Check.due("lantern as an adjective", x.name(16, 2, 1), -1);
        Check.due("lantern, what lamp is already: the first one here", x.name(16, 1, 0), -1);

        Check.sentence("8: BAD: thing");
        for (int thing : new int[] {-1, -4, 8, 24, 32, 33, 40, -31, MIN, MAX}) {
            Check.due("name(7, " + thing + ", 0)", x.name(7, thing, 0), -1);
            Check.due("name(7, " + thing + ", 1)", x.name(7, thing, 1), -1);
        }

        Check.sentence("8: BAD: as.");
        for (int as : new int[] {-1, 2, -4, 256, MIN, MAX}) {
            Check.due("name(7, 2, " + as + ")", x.name(7, 2, as), -1);
            Check.due("name(7, 1, " + as + "), a noun already: the first one here", x.name(7, 1, as), -1);
        }
        Check.reads(x, "take lamp, lantern", 1);
        Check.order(x, 0, "0 0 -4 [1] []");
        Check.fails(x, "take lamp box", 4, 5, 0);
        Check.due("nothing of it was kept", x.name(7, 2, 1), 0);
        Check.due("nothing of it was kept", x.name(7, 2, 0), 0);
    }

    private static void nameTwice() {
        Check.sentence("8: A NAME becomes a NOUN (as 0), ADJECTIVE (1) of a thing: 0. NO: it is that already.");
        PronounOrders x = new PronounOrders();
        for (int i = 1; i < 24; i++) {
            x.thing(0);
        }
        Check.word(x, "every", 0);
        for (int thing = 0; thing < 24; thing++) {
            for (int as = 0; as < 2; as++) {
                Check.due("name(0, " + thing + ", " + as + ")", x.name(0, thing, as), 0);
                Check.due("name(0, " + thing + ", " + as + ") again", x.name(0, thing, as), -2);
            }
        }
        for (int thing = 0; thing < 24; thing++) {
            Check.due("still a noun", x.name(0, thing, 0), -2);
            Check.due("still an adjective", x.name(0, thing, 1), -2);
        }
        Check.word(x, "take", 1);
        x.form(1, 1);
        Check.fails(x, "take every", 5, 5, 0);
        for (int thing = 1; thing < 24; thing++) {
            x.see(thing, false);
        }
        Check.reads(x, "take every. take every every", 2);
        Check.order(x, 0, "0 1 -4 [0] []");
    }

    private static void formRefused() {
        Check.sentence("9: BAD: no such word that is a VERB");
        PronounOrders x = Check.world();
        for (int word : NO_WORD) {
            Check.due("form(" + word + ", 0)", x.form(word, 0), -1);
        }
        for (int word = 4; word <= 14; word++) {
            Check.due("form(" + word + ", 1)", x.form(word, 1), -1);
        }

        Check.sentence("9: (and not THE SAME as another one)");
        for (int form = 0; form < 4; form++) {
            Check.due("get's form", x.form(15, form), -1);
        }

        Check.sentence("9: form is not 0 .. 3.");
        for (int form : new int[] {-1, 4, -4, 256, MIN, MAX}) {
            Check.due("form(0, " + form + ")", x.form(0, form), -1);
        }
        Check.due("a refused one stays", x.form(0, 1), 1);
        Check.reads(x, "get lamp", 1);
    }

    private static void formAtFirst() {
        Check.sentence("9: A VERB's FORM (0 at first): what it was.");
        PronounOrders x = new PronounOrders();
        Check.word(x, "look", 1);
        Check.reads(x, "look", 1);
        int was = 0;
        for (int form : new int[] {0, 3, 3, 1, 2, 0, 1}) {
            Check.due("form(0, " + form + ")", x.form(0, form), was);
            was = form;
        }
        for (int i = 1; i < 60; i++) {
            Check.word(x, numbered(i), 1);
        }
        Check.due("the last word's", x.form(59, 3), 0);
        Check.due("the last word's", x.form(59, 0), 3);
        Check.due("none behind it", x.form(60, 0), -1);
        Check.due("the first word's stays", x.form(0, 0), 1);
    }

    private static void sameBad() {
        Check.sentence("10: BAD: no such words");
        PronounOrders x = Check.world();
        int hold = Check.word(x, "hold", 1);
        int[] none = {-1, -2, -4, 19, 60, 64, MIN, MAX};
        for (int word : none) {
            Check.due("same(" + word + ", 0)", x.same(word, 0), -1);
            Check.due("same(hold, " + word + ")", x.same(hold, word), -1);
            Check.due("same(" + word + ", " + word + ")", x.same(word, word), -1);
        }
        Check.due("both wrong", x.same(20, 19), -1);
        Check.due("both wrong", x.same(-1, -2), -1);

        Check.sentence("10: BAD: other is not less than word");
        Check.due("the word itself", x.same(hold, hold), -1);
        Check.due("word 0 itself", x.same(0, 0), -1);
        Check.due("one behind it", x.same(2, hold), -1);
        Check.due("one behind it, which has no form: not NO", x.same(0, 2), -1);
        Check.due("lamp as its own", x.same(7, 16), -1);

        Check.sentence("10: BAD: of another SORT");
        int[] sorts = {2, 4, 6, 7};
        int[] fresh = {hold, Check.word(x, "near", 2), Check.word(x, "kindly", 3), Check.word(x, "door", 0)};
        for (int i = 0; i < 4; i++) {
            for (int k = 0; k < 4; k++) {
                if (i != k) {
                    Check.due("same(" + fresh[i] + ", " + sorts[k] + ")", x.same(fresh[i], sorts[k]), -1);
                }
            }
        }

        Check.sentence("10: BAD: or THE SAME as a third one.");
        Check.due("hold as get", x.same(hold, 15), -1);
        Check.due("near as into", x.same(fresh[1], 17), -1);
        Check.due("door as lantern", x.same(fresh[3], 16), -1);
        Check.fails(x, "take door", 4, 5, 0);
        Check.reads(x, "hold", 1);
        for (int i = 0; i < 4; i++) {
            Check.due("a refused one may still become one", x.same(fresh[i], sorts[i]), 0);
        }
    }

    private static void sameNo() {
        Check.sentence("10: NO: word is THE SAME as one already");
        PronounOrders x = Check.world();
        Check.due("get as take once more", x.same(15, 0), -2);
        Check.due("get as put", x.same(15, 1), -2);
        Check.due("lantern as box", x.same(16, 8), -2);
        Check.due("into as on", x.same(17, 5), -2);
        Check.reads(x, "get lantern. put lantern into coins", 2);
        Check.order(x, 1, "0 1 4 [1] [5]");

        Check.sentence("10: NO: or others are as it");
        int[] row = {Check.word(x, "ba", 1), Check.word(x, "bb", 1), Check.word(x, "bc", 1)};
        Check.due("bc as bb", x.same(row[2], row[1]), 0);
        Check.due("bb as ba", x.same(row[1], row[0]), -2);
        Check.reads(x, "bc. bb. ba", 3);
        Check.due("bc is bb", x.order(0, 1), row[1]);
        Check.due("bb is bb", x.order(1, 1), row[1]);
        Check.due("a polite one", x.same(Check.word(x, "pa", 3), 6), 0);
        int second = Check.word(x, "pb", 3);
        Check.due("one as it", x.same(Check.word(x, "pc", 3), second), 0);
        Check.due("a polite one that others are as", x.same(second, 6), -2);

        Check.sentence("10: NO: it is a NAME of things");
        int noun = Check.word(x, "na", 0);
        int adjective = Check.word(x, "nb", 0);
        x.name(noun, 0, 0);
        x.name(adjective, 0, 1);
        Check.due("a noun of the player alone", x.same(noun, 7), -2);
        Check.due("an adjective of the player alone", x.same(adjective, 7), -2);
        Check.due("a noun", x.same(8, 7), -2);
        Check.due("an adjective", x.same(12, 7), -2);
        Check.reads(x, "take na", 1);
        Check.order(x, 0, "0 0 -4 [0] []");

        Check.sentence("10: NO: or has a FORM above 0.");
        int verb = Check.word(x, "va", 1);
        for (int form = 1; form < 4; form++) {
            x.form(verb, form);
            Check.due("of form " + form, x.same(verb, 0), -2);
        }
        Check.due("its form stays", x.form(verb, 0), 3);
        Check.due("of form 0", x.same(verb, 0), 0);
    }

    private static void sameNoLonger() {
        Check.sentence("10: A word is THE SAME as another one: 0.");
        PronounOrders x = new PronounOrders();
        for (int i = 0; i < 60; i++) {
            Check.word(x, numbered(i), i == 1 ? 0 : 1);
        }
        Check.due("the second as the first, of another sort", x.same(1, 0), -1);
        for (int i = 2; i < 60; i++) {
            Check.due("word " + i + " as word 0", x.same(i, 0), 0);
        }
        Check.due("word 59 has no form of its own", x.form(59, 1), -1);
        Check.due("word 0 has", x.form(0, 1), 0);
        x.thing(0);
        Check.due("a name", x.name(1, 1, 0), 0);
        Check.reads(x, numbered(59) + " " + numbered(1), 1);
        Check.order(x, 0, "0 0 -4 [1] []");
        Check.due("none behind the last one", x.same(60, 0), -1);
    }

    private static void firstOfSeveral() {
        Check.sentence("of several the first one here");
        PronounOrders x = Check.world();
        Check.due("same: another sort, and a name of things", x.same(8, 0), -1);
        Check.due("same: another sort, and a form", x.same(3, -1), -1);
        Check.due("same: not less, and a form", x.same(0, 1), -1);
        Check.due("same: as a third one, and the same already", x.same(15, 15), -1);
        int hold = Check.word(x, "hold", 1);
        x.form(hold, 2);
        Check.due("same: as a third one, and a form", x.same(hold, 15), -1);
        Check.due("name: no such thing, of one that is the same", x.name(16, 99, 0), -1);
        Check.due("form: of one that is the same, no such form", x.form(15, 9), -1);
    }
}
