import java.util.ArrayList;
import java.util.Arrays;
import java.util.LinkedHashSet;
import java.util.List;
import java.util.Locale;
import java.util.Set;

/**
 * The document read a second time, as plainly as the Java library allows: sets, texts, and a FAULT that is
 * thrown. It shares no code with the class, so that ModelTest can lay their answers side by side.
 */
final class Model {
    private static final int BAD = -1, NO = -2, FULL = -3, NONE = -4;
    private static final List<String> FIXED = Arrays.asList(("the a an and then tell to again it him her them me"
            + " myself yourself his its their my all but").split(" "));
    private static final List<String> PRONOUNS = Arrays.asList("it", "him", "her", "them");
    private static final List<String> OWNERS = Arrays.asList("its", "his", "her", "their");

    private static final class Thing {
        int kind;
        boolean seen = true;
        int owner = NONE;

        boolean isPerson() {
            return kind == 1 || kind == 2;
        }
    }

    private static final class Word {
        String letters;
        int sort;
        int form;
        int same = NONE;
        Set<Integer> nouns = new LinkedHashSet<>();
        Set<Integer> adjectives = new LinkedHashSet<>();
    }

    private static final class Given {
        int actor;
        int verb;
        int preposition = NONE;
        List<Integer> first = new ArrayList<>();
        List<Integer> second = new ArrayList<>();
    }

    /** sort: -1 fixed or a mark, -2 no word, -3 the end; else the word's SORT. */
    private static final class Token {
        String text;
        int sort;
        int word = NONE;
        int place;

        boolean is(String... texts) {
            return sort == -1 && Arrays.asList(texts).contains(text);
        }
    }

    private static final class Fault extends Exception {
        private static final long serialVersionUID = 1L;
        final int number;
        final int place;

        Fault(int number, int place) {
            this.number = number;
            this.place = place;
        }
    }

    private final List<Thing> things = new ArrayList<>();
    private final List<Word> words = new ArrayList<>();
    private final StringBuilder tape = new StringBuilder();
    private final List<List<Integer>> table = new ArrayList<>();
    private List<Given> orders = new ArrayList<>();
    private Given latest = null;
    private int total = 0;
    private int fault = 0;
    private List<Token> tokens = new ArrayList<>();
    private int at = 0;

    Model() {
        Thing player = new Thing();
        player.kind = 1;
        things.add(player);
        for (int i = 0; i < 4; i++) {
            table.add(new ArrayList<>());
        }
    }

    private boolean isThing(int thing) {
        return thing >= 0 && thing < things.size();
    }

    private boolean isWord(int word) {
        return word >= 0 && word < words.size();
    }

    int thing(int kind) {
        if (kind < 0 || kind > 3) {
            return BAD;
        }
        if (things.size() == 24) {
            return FULL;
        }
        Thing made = new Thing();
        made.kind = kind;
        things.add(made);
        return things.size() - 1;
    }

    int see(int thing, boolean is) {
        if (!isThing(thing) || thing == 0) {
            return BAD;
        }
        int was = things.get(thing).seen ? 1 : 0;
        things.get(thing).seen = is;
        return was;
    }

    int own(int thing, int owner) {
        if (!isThing(thing) || !isThing(owner) && owner != NONE || thing == owner) {
            return BAD;
        }
        things.get(thing).owner = owner;
        return 0;
    }

    int turn(int thing, int kind) {
        if (!isThing(thing) || thing == 0 || kind < 0 || kind > 3) {
            return BAD;
        }
        int was = things.get(thing).kind;
        things.get(thing).kind = kind;
        return was;
    }

    int feed(int n, long bytes) {
        if (n < 1 || n > 8) {
            return BAD;
        }
        if (tape.length() + n > 200) {
            return FULL;
        }
        for (int i = 0; i < n; i++) {
            tape.append((char) (bytes >>> 8 * i & 255));
        }
        return tape.length();
    }

    private String takeTape() {
        String text = tape.toString();
        tape.setLength(0);
        return text;
    }

    int word(int sort) {
        String letters = takeTape();
        if (sort < 0 || sort > 3 || !letters.matches("[a-z]{1,8}") || FIXED.contains(letters)) {
            return BAD;
        }
        if (find(letters) != NONE) {
            return NO;
        }
        if (words.size() == 60) {
            return FULL;
        }
        Word made = new Word();
        made.letters = letters;
        made.sort = sort;
        words.add(made);
        return words.size() - 1;
    }

    private int find(String letters) {
        for (int i = 0; i < words.size(); i++) {
            if (words.get(i).letters.equals(letters)) {
                return i;
            }
        }
        return NONE;
    }

    int name(int word, int thing, int as) {
        if (!isWord(word) || words.get(word).sort != 0 || words.get(word).same != NONE || !isThing(thing)
                || as < 0 || as > 1) {
            return BAD;
        }
        Set<Integer> named = as == 0 ? words.get(word).nouns : words.get(word).adjectives;
        return named.add(thing) ? 0 : NO;
    }

    int form(int word, int form) {
        if (!isWord(word) || words.get(word).sort != 1 || words.get(word).same != NONE || form < 0 || form > 3) {
            return BAD;
        }
        int was = words.get(word).form;
        words.get(word).form = form;
        return was;
    }

    int same(int word, int other) {
        if (!isWord(word) || !isWord(other) || other >= word || words.get(word).sort != words.get(other).sort
                || words.get(other).same != NONE) {
            return BAD;
        }
        Word told = words.get(word);
        boolean areOthers = words.stream().anyMatch(w -> w.same == word);
        if (told.same != NONE || areOthers || !told.nouns.isEmpty() || !told.adjectives.isEmpty() || told.form > 0) {
            return NO;
        }
        told.same = other;
        return 0;
    }

    int fault() {
        return fault;
    }

    int order(int i, int what) {
        if (i < 0 || i >= orders.size() || what < 0 || what > 4) {
            return BAD;
        }
        Given given = orders.get(i);
        return new int[] {given.actor, given.verb, given.preposition, given.first.size(), given.second.size()}[what];
    }

    int given(int i, int side, int k) {
        if (i < 0 || i >= orders.size() || side < 0 || side > 1) {
            return BAD;
        }
        List<Integer> list = side == 0 ? orders.get(i).first : orders.get(i).second;
        return k < 0 || k >= list.size() ? BAD : list.get(k);
    }

    int table(int pronoun, int k) {
        if (pronoun < 0 || pronoun > 3) {
            return BAD;
        }
        return k < 0 || k >= table.get(pronoun).size() ? NONE : table.get(pronoun).get(k);
    }

    int count(int what) {
        if (what < 0 || what > 4) {
            return BAD;
        }
        return new int[] {things.size(), words.size(), tape.length(), orders.size(), total}[what];
    }

    int line() {
        String text = takeTape();
        orders = new ArrayList<>();
        fault = 0;
        at = 0;
        try {
            tokens = tokensOf(text);
            readLine();
            return orders.size();
        } catch (Fault met) {
            fault = met.number;
            return -10 - met.place;
        }
    }

    private List<Token> tokensOf(String text) throws Fault {
        java.util.regex.Matcher strange = java.util.regex.Pattern.compile("[^A-Za-z,. ]").matcher(text);
        if (strange.find()) {
            throw new Fault(1, strange.start());
        }
        List<Token> found = new ArrayList<>();
        java.util.regex.Matcher rows = java.util.regex.Pattern.compile("[A-Za-z]+|[,.]").matcher(text);
        while (rows.find()) {
            Token token = new Token();
            String row = rows.group().toLowerCase(Locale.ROOT);
            token.text = row.length() > 8 ? row.substring(0, 8) : row;
            token.place = rows.start();
            token.word = find(token.text);
            if (FIXED.contains(token.text) || row.equals(",") || row.equals(".")) {
                token.sort = -1;
            } else if (token.word == NONE) {
                token.sort = -2;
            } else {
                token.sort = words.get(token.word).sort;
                token.word = words.get(token.word).same == NONE ? token.word : words.get(token.word).same;
            }
            if (token.sort != 3) {
                found.add(token);
            }
        }
        Token end = new Token();
        end.text = "";
        end.sort = -3;
        end.place = text.length();
        found.add(end);
        found.add(end);
        return found;
    }

    private Token now() {
        return tokens.get(at);
    }

    private Token behind() {
        return tokens.get(Math.min(at + 1, tokens.size() - 1));
    }

    private Fault cannotStand() {
        return new Fault(now().sort == -2 ? 2 : 3, now().place);
    }

    private void expect(String text) throws Fault {
        if (!now().is(text)) {
            throw cannotStand();
        }
        at++;
    }

    private boolean isOver() {
        return now().sort == -3 || now().is(".", "then");
    }

    private void readLine() throws Fault {
        while (true) {
            while (now().is(".", "then")) {
                at++;
            }
            if (now().sort == -3) {
                return;
            }
            readOrder();
            if (!isOver()) {
                throw new IllegalStateException("an order ends where none may");
            }
        }
    }

    private void readOrder() throws Fault {
        if (now().is("again")) {
            readAgain();
        } else if (now().sort == 1) {
            readCommands(0);
        } else if (now().is("tell")) {
            at++;
            int actor = readActor();
            expect("to");
            readCommands(actor);
        } else {
            int actor = readActor();
            expect(",");
            readCommands(actor);
        }
    }

    private void readAgain() throws Fault {
        int place = now().place;
        if (latest == null) {
            throw new Fault(6, place);
        }
        List<Integer> all = new ArrayList<>(latest.first);
        all.addAll(latest.second);
        all.add(latest.actor);
        for (int thing : all) {
            if (!things.get(thing).seen) {
                throw new Fault(7, place);
            }
        }
        if (orders.size() == 10) {
            throw new Fault(9, place);
        }
        at++;
        if (!isOver()) {
            throw cannotStand();
        }
        orders.add(latest);
        total++;
    }

    private int readActor() throws Fault {
        int place = now().place;
        List<Integer> who = readItem(0);
        if (who.size() != 1 || who.get(0) == 0 || !things.get(who.get(0)).isPerson()) {
            throw new Fault(8, place);
        }
        return who.get(0);
    }

    private void readCommands(int actor) throws Fault {
        boolean isFirst = true;
        while (true) {
            Given given = readCommand(actor);
            boolean goesOn = now().is("and") && behind().sort == 1;
            if (!goesOn && !isOver()) {
                throw cannotStand();
            }
            orders.add(given);
            total++;
            latest = given;
            if (actor != 0 && isFirst) {
                set(List.of(actor));
            }
            set(given.first);
            set(given.second);
            isFirst = false;
            if (!goesOn) {
                return;
            }
            at++;
        }
    }

    private void set(List<Integer> list) {
        if (list.size() > 1) {
            table.set(3, new ArrayList<>(list));
        } else if (list.size() == 1 && list.get(0) != 0) {
            table.set(things.get(list.get(0)).kind, new ArrayList<>(list));
        }
    }

    private Given readCommand(int actor) throws Fault {
        if (now().sort != 1) {
            throw cannotStand();
        }
        if (orders.size() == 10) {
            throw new Fault(9, now().place);
        }
        Given given = new Given();
        given.actor = actor;
        given.verb = now().word;
        int form = words.get(given.verb).form;
        at++;
        if (form == 0) {
            return given;
        }
        given.first = readList(actor);
        if (form == 2 || form == 3 && now().sort == 2) {
            if (now().sort != 2) {
                throw cannotStand();
            }
            given.preposition = now().word;
            at++;
            given.second = readList(actor);
        }
        return given;
    }

    private List<Integer> readList(int actor) throws Fault {
        Set<Integer> all = readItems(actor);
        if (now().is("but")) {
            int place = now().place;
            at++;
            all.removeAll(readItems(actor));
            if (all.isEmpty()) {
                throw new Fault(4, place);
            }
        }
        return new ArrayList<>(all);
    }

    private Set<Integer> readItems(int actor) throws Fault {
        Set<Integer> all = new LinkedHashSet<>(readItem(actor));
        while (true) {
            boolean isComma = now().is(",");
            if (isComma) {
                at++;
            }
            boolean isAnd = now().is("and") && behind().sort != 1;
            if (isAnd) {
                at++;
            }
            if (!isComma && !isAnd) {
                return all;
            }
            all.addAll(readItem(actor));
        }
    }

    private List<Integer> readItem(int actor) throws Fault {
        Token token = now();
        if (token.is("all")) {
            at++;
            return readAll(token, actor);
        }
        if (token.is("me", "myself", "yourself")) {
            at++;
            return List.of(token.is("yourself") ? actor : 0);
        }
        boolean isWhose = token.is("my", "his", "its", "their") || token.is("her") && behind().sort == 0;
        if (!isWhose && token.is("it", "him", "her", "them")) {
            at++;
            return fromTable(PRONOUNS.indexOf(token.text), token.place);
        }
        List<Integer> owners = null;
        if (isWhose) {
            at++;
            owners = token.is("my") ? List.of(0) : fromTable(OWNERS.indexOf(token.text), token.place);
        } else if (token.is("the", "a", "an")) {
            at++;
        }
        return readNames(owners);
    }

    private List<Integer> readAll(Token token, int actor) throws Fault {
        List<Integer> all = new ArrayList<>();
        for (int thing = 1; thing < things.size(); thing++) {
            if (things.get(thing).seen && thing != actor && !things.get(thing).isPerson()) {
                all.add(thing);
            }
        }
        if (all.isEmpty()) {
            throw new Fault(4, token.place);
        }
        return all;
    }

    private List<Integer> fromTable(int pronoun, int place) throws Fault {
        List<Integer> meant = table.get(pronoun);
        if (meant.isEmpty()) {
            throw new Fault(6, place);
        }
        for (int thing : meant) {
            if (!things.get(thing).seen) {
                throw new Fault(7, place);
            }
        }
        return meant;
    }

    private List<Integer> readNames(List<Integer> owners) throws Fault {
        if (now().sort != 0) {
            throw cannotStand();
        }
        int place = now().place;
        List<Word> row = new ArrayList<>();
        while (now().sort == 0) {
            row.add(words.get(now().word));
            at++;
        }
        List<Integer> meant = new ArrayList<>();
        for (int thing = 0; thing < things.size(); thing++) {
            boolean fits = row.get(row.size() - 1).nouns.contains(thing) && things.get(thing).seen;
            for (Word word : row.subList(0, row.size() - 1)) {
                fits &= word.nouns.contains(thing) || word.adjectives.contains(thing);
            }
            if (fits && (owners == null || owners.contains(things.get(thing).owner))) {
                meant.add(thing);
            }
        }
        if (meant.size() != 1) {
            throw new Fault(meant.isEmpty() ? 4 : 5, place);
        }
        return meant;
    }
}
