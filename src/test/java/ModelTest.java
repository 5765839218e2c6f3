import java.util.Random;

/** Made-up runs, the same ones every time: each answer of the class beside that of the Model. */
public final class ModelTest {
    private static final int RUNS = 4000;
    private static final int CALLS = 512;
    private static final int[] EXTREMES = {Integer.MIN_VALUE, Integer.MAX_VALUE, -1, -2, -3, -4, -5, 0, 24, 60, 200};
    private static final String[] NOUNS = {"lamp", "box", "bob", "ann", "coins", "tom"};
    private static final String[] ADJECTIVES = {"red", "blue"};
    private static final String[] VERBS = {"take", "put", "look", "use"};
    private static final String[] PREPOSITIONS = {"in", "on"};
    private static final String[] PRONOUNS = {"it", "him", "her", "them", "me", "myself", "yourself", "all"};
    private static final String[] DETERMINERS = {"the", "a", "an", "my", "his", "her", "its", "their"};
    private static final String[] ANY = {"the", "a", "an", "and", "then", "tell", "to", "again", "it", "him", "her", "them",
        "me", "myself", "yourself", "his", "its", "their", "my", "all", "but", ",", ".", "please", "xyzzy", "take", "put", "look",
        "use", "in", "on", "get", "lantern", "into", "kindly", "lamp", "box", "bob", "ann", "coins", "tom", "red", "blue"};

    private final Random random;
    private final PronounOrders x = new PronounOrders();
    private final Model model = new Model();
    private final StringBuilder log = new StringBuilder();
    private final int[] faults;
    private int calls = 0;

    private ModelTest(int seed, int[] faults) {
        this.random = new Random(seed);
        this.faults = faults;
    }

    public static void main(String[] args) {
        int[] faults = new int[10];
        for (int run = 0; run < RUNS; run++) {
            ModelTest test = new ModelTest(run, faults);
            test.tell(run % 4 == 3);
            while (test.calls < CALLS - 60) {
                test.step();
            }
        }
        // A run that never meets a fault, or meets nothing else, would prove little.
        for (int fault = 0; fault < 10; fault++) {
            Check.due("fault " + fault + " is met often", Math.min(faults[fault], 100), 100);
        }
        Check.end();
    }

    private void same(String call, int got, int want) {
        calls++;
        log.append(call).append(" = ").append(want).append('\n');
        if (got != want) {
            System.out.println(log);
            Check.due("the last call", got, want);
            Check.end();
        }
        Check.due(call, got, want);
    }

    private int pick(int bound) {
        return random.nextInt(bound);
    }

    private String pick(String[] texts) {
        return texts[pick(texts.length)];
    }

    private int number(int bound) {
        return pick(12) == 0 ? EXTREMES[pick(EXTREMES.length)] : pick(bound);
    }

    private void feed(String text) {
        int from = 0;
        while (from < text.length()) {
            int n = Math.min(pick(20) == 0 ? 1 + pick(8) : 8, text.length() - from);
            long bytes = Check.packed(text.substring(from, from + n));
            if (n < 8 && pick(2) == 0) {
                bytes |= -1L << 8 * n;
            }
            same("feed " + n + " of '" + text + "'", x.feed(n, bytes), model.feed(n, bytes));
            from += n;
        }
    }

    private void word(String letters, int sort) {
        feed(letters);
        same("word " + letters + " " + sort, x.word(sort), model.word(sort));
    }

    private void tell(boolean isPoor) {
        for (int i = 0; i < (isPoor ? 2 : 6); i++) {
            thing(i < 6 ? new int[] {0, 0, 1, 2, 3, 0}[i] : pick(4));
        }
        for (String letters : VERBS) {
            word(letters, 1);
        }
        for (int verb = 0; verb < 4; verb++) {
            form(verb, new int[] {1, 2, 0, 3}[verb]);
        }
        for (String letters : PREPOSITIONS) {
            word(letters, 2);
        }
        word("please", 3);
        for (String letters : NOUNS) {
            word(letters, 0);
        }
        for (String letters : ADJECTIVES) {
            word(letters, 0);
        }
        int[][] names = {{7, 1, 0}, {8, 2, 0}, {8, 6, 0}, {9, 3, 0}, {10, 4, 0}, {11, 5, 0}, {13, 2, 1}, {13, 1, 1}, {14, 6, 1}};
        for (int[] name : names) {
            name(name[0], name[1], name[2]);
        }
        word("get", 1);
        word("lantern", 0);
        word("into", 2);
        word("kindly", 3);
        alike(15, 0);
        alike(16, 7);
        alike(17, 4);
        if (pick(2) == 0) {
            alike(18, 6);
        }
    }

    private void thing(int kind) {
        same("thing " + kind, x.thing(kind), model.thing(kind));
    }

    private void form(int word, int form) {
        same("form " + word + " " + form, x.form(word, form), model.form(word, form));
    }

    private void name(int word, int thing, int as) {
        same("name " + word + " " + thing + " " + as, x.name(word, thing, as), model.name(word, thing, as));
    }

    private void alike(int word, int other) {
        same("same " + word + " " + other, x.same(word, other), model.same(word, other));
    }

    private void step() {
        switch (pick(24)) {
            case 0: thing(number(4)); break;
            case 1: case 2: case 3: see(number(9), pick(3) != 0); break;
            case 4: case 5: own(number(9), pick(6) == 0 ? -4 : number(9)); break;
            case 6: turn(number(9), number(4)); break;
            case 7: if (pick(3) == 0) { form(number(22), number(4)); } break;
            case 8: if (pick(3) == 0) { name(number(22), number(9), number(2)); } break;
            case 9: if (pick(4) == 0) { alike(number(22), number(22)); } break;
            case 10: if (pick(3) == 0) { word(pick(3) == 0 ? pick(ANY) : randomLetters(), number(4)); } break;
            case 11: oddCalls(); break;
            case 12: feedOdd(); break;
            default: line();
        }
    }

    private void see(int thing, boolean is) {
        same("see " + thing + " " + is, x.see(thing, is), model.see(thing, is));
    }

    private void own(int thing, int owner) {
        same("own " + thing + " " + owner, x.own(thing, owner), model.own(thing, owner));
    }

    private void turn(int thing, int kind) {
        same("turn " + thing + " " + kind, x.turn(thing, kind), model.turn(thing, kind));
    }

    private String randomLetters() {
        StringBuilder letters = new StringBuilder();
        for (int i = pick(10); i > 0; i--) {
            letters.append((char) ((pick(30) == 0 ? 'A' : 'a') + pick(3)));
        }
        return letters.toString();
    }

    private void feedOdd() {
        int n = number(10);
        long bytes = pick(2) == 0 ? Check.packed(" .look. ") : random.nextLong();
        same("feed " + n + " " + bytes, x.feed(n, bytes), model.feed(n, bytes));
    }

    private void oddCalls() {
        int i = number(3);
        int what = number(6);
        int k = number(4);
        same("order " + i + " " + what, x.order(i, what), model.order(i, what));
        same("given " + i + " " + what + " " + k, x.given(i, what, k), model.given(i, what, k));
        same("table " + what + " " + k, x.table(what, k), model.table(what, k));
        same("count " + what, x.count(what), model.count(what));
    }

    private void line() {
        String text = pick(8) == 0 ? anyTokens() : spoiled(orders());
        if (pick(40) == 0) {
            text = text + "?";
        }
        text = text.length() > 200 ? text.substring(0, 200) : text;
        feed(pick(10) == 0 ? text.toUpperCase(java.util.Locale.ROOT) : text);
        same("line", x.line(), model.line());
        same("fault", x.fault(), model.fault());
        faults[model.fault()]++;
        same("count 3", x.count(3), model.count(3));
        same("count 4", x.count(4), model.count(4));
        look();
    }

    /** Looks at the last ORDER and THE TABLE, so that few calls see most of what a line has done. */
    private void look() {
        int last = model.count(3) - 1;
        for (int what = 0; what < 5 && last >= 0; what++) {
            same("order " + last + " " + what, x.order(last, what), model.order(last, what));
        }
        for (int side = 0; side < 2 && last >= 0; side++) {
            for (int k = 0; k < Math.min(3, model.order(last, 3 + side)); k++) {
                same("given " + last + " " + side + " " + k, x.given(last, side, k), model.given(last, side, k));
            }
        }
        for (int pronoun = 0; pronoun < 4; pronoun++) {
            same("table " + pronoun + " 0", x.table(pronoun, 0), model.table(pronoun, 0));
        }
        int k = 1 + pick(3);
        same("table 3 " + k, x.table(3, k), model.table(3, k));
    }

    private String anyTokens() {
        StringBuilder text = new StringBuilder();
        for (int i = pick(12); i > 0; i--) {
            text.append(pick(ANY)).append(pick(10) == 0 ? "  " : " ");
        }
        return text.toString();
    }

    /** Now and then a token is left out, put in, or changed. */
    private String spoiled(String text) {
        if (pick(3) != 0) {
            return text;
        }
        String[] tokens = text.split(" ");
        int where = pick(tokens.length);
        switch (pick(3)) {
            case 0: tokens[where] = ""; break;
            case 1: tokens[where] = pick(ANY); break;
            default: tokens[where] = pick(ANY) + " " + tokens[where];
        }
        return String.join(" ", tokens);
    }

    private String orders() {
        StringBuilder text = new StringBuilder();
        int orders = pick(15) == 0 ? 9 + pick(4) : 1 + pick(3);
        for (int i = 0; i < orders; i++) {
            text.append(i == 0 ? "" : pick(2) == 0 ? " . " : " then ");
            text.append(orders > 8 ? pick(2) == 0 ? "look" : "again" : order());
        }
        return text.toString();
    }

    private String order() {
        StringBuilder text = new StringBuilder();
        switch (pick(8)) {
            case 0: return "again";
            case 1: text.append("tell ").append(actor()).append(" to "); break;
            case 2: text.append(actor()).append(" , "); break;
            default: break;
        }
        for (int i = pick(3) == 0 ? 2 : 1; i > 0; i--) {
            text.append(command()).append(i > 1 ? " and " : "");
        }
        return text.toString();
    }

    private String actor() {
        return pick(3) == 0 ? item() : pick(new String[] {"bob", "ann", "him", "her"});
    }

    private String command() {
        String polite = pick(10) == 0 ? "please " : "";
        switch (pick(5)) {
            case 0: return polite + "look";
            case 1: return polite + "put " + list() + " " + pick(PREPOSITIONS) + " " + list();
            case 2: return "use " + list() + (pick(2) == 0 ? " into " + list() : "");
            default: return polite + (pick(4) == 0 ? "get " : "take ") + list();
        }
    }

    private String list() {
        return items() + (pick(6) == 0 ? " but " + items() : "") + (pick(20) == 0 ? " please" : "");
    }

    private String items() {
        StringBuilder text = new StringBuilder(item());
        for (int i = pick(3) == 0 ? 1 + pick(3) : 0; i > 0; i--) {
            text.append(pick(new String[] {" , ", " and ", " , and "})).append(item());
        }
        return text.toString();
    }

    private String item() {
        if (pick(4) == 0) {
            return pick(PRONOUNS);
        }
        String noun = pick(NOUNS);
        String names = noun.equals("box") || pick(5) == 0 ? pick(ADJECTIVES) + " " + noun : noun;
        return pick(3) == 0 ? pick(DETERMINERS) + " " + names : names;
    }
}
