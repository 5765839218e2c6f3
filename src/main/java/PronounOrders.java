import java.util.Arrays;

/** Turns the lines that a player types into orders; ../shared/DOC.md tells the promises. */
public final class PronounOrders {
    public static final int BAD = -1, NO = -2, FULL = -3, NONE = -4;

    private static final int MOST_THINGS = 24;
    private static final int MOST_WORDS = 60;
    private static final int MOST_LETTERS = 8;
    private static final int MOST_BYTES = 200;
    private static final int MOST_ORDERS = 10;
    private static final int MOST_FED = 8;

    private static final int PLAYER = 0;

    // A thing's KIND is also the number of the pronoun that means it.
    private static final int KIND_IT = 0, KIND_HIM = 1, KIND_HER = 2, KIND_THEM = 3;
    private static final int KINDS = 4;

    private static final int SORT_NAME = 0, SORT_VERB = 1, SORT_PREPOSITION = 2, SORT_POLITE = 3;
    private static final int SORTS = 4;

    private static final int ALONE = 0, WITH_THINGS = 1, WITH_BOTH = 2, WITH_EITHER = 3;
    private static final int FORMS = 4;

    private static final int AS_NOUN = 0, AS_ADJECTIVE = 1;

    // What a TOKEN is: a FIXED word by its number in this text, or one of those that follow.
    private static final String FIXED =
            "the a an and then tell to again it him her them me myself yourself his its their my all but";
    private static final int FIXED_WORDS = 21;
    private static final int THE = 0, A = 1, AN = 2, AND = 3, THEN = 4, TELL = 5, TO = 6, AGAIN = 7;
    private static final int IT = 8, HIM = 9, HER = 10, THEM = 11, ME = 12, MYSELF = 13, YOURSELF = 14;
    private static final int HIS = 15, ITS = 16, THEIR = 17, MY = 18, ALL = 19, BUT = 20;
    private static final int COMMA = 21, STOP = 22, NAME = 23, VERB = 24, PREPOSITION = 25;
    private static final int STRANGE_WORD = 26, STRANGE_BYTE = 27, END = 28;

    private static final int FAULT_BYTE = 1, FAULT_WORD = 2, FAULT_MISPLACED = 3, FAULT_NOTHING = 4;
    private static final int FAULT_SEVERAL = 5, FAULT_UNKNOWN = 6, FAULT_UNSEEN = 7, FAULT_ACTOR = 8;
    private static final int FAULT_TOO_MANY = 9;
    private static final int FAULT_BASE = -10;

    private final Things things;
    private final Words words;
    private final Tape tape;
    private final Table table;
    private final Orders orders;
    private final Reader reader;

    public PronounOrders() {
        things = new Things();
        words = new Words();
        tape = new Tape();
        table = new Table();
        orders = new Orders();
        reader = new Reader(things, words, table, orders);
    }

    public int thing(int kind) {
        return isBelow(kind, KINDS) ? things.add(kind) : BAD;
    }

    public int see(int thing, boolean is) {
        if (!things.has(thing) || thing == PLAYER) {
            return BAD;
        }
        int was = things.isSeen(thing) ? 1 : 0;
        things.setSeen(thing, is);
        return was;
    }

    public int own(int thing, int owner) {
        boolean isOwner = owner == NONE || things.has(owner);
        if (!things.has(thing) || !isOwner || thing == owner) {
            return BAD;
        }
        things.setOwner(thing, owner);
        return 0;
    }

    public int turn(int thing, int kind) {
        if (!things.has(thing) || thing == PLAYER || !isBelow(kind, KINDS)) {
            return BAD;
        }
        int was = things.kindOf(thing);
        things.setKind(thing, kind);
        return was;
    }

    public int feed(int n, long bytes) {
        if (n < 1 || n > MOST_FED) {
            return BAD;
        }
        return tape.append(n, bytes) ? tape.size() : FULL;
    }

    public int word(int sort) {
        boolean isPlain = tape.isPlainWord();
        long key = tape.keyAt(0);
        tape.clear();
        if (!isBelow(sort, SORTS) || !isPlain || words.fixedNumber(key) != NONE) {
            return BAD;
        }
        return words.find(key) == NONE ? words.add(key, sort) : NO;
    }

    public int name(int word, int thing, int as) {
        boolean isAs = as == AS_NOUN || as == AS_ADJECTIVE;
        if (!words.isOwn(word, SORT_NAME) || !things.has(thing) || !isAs) {
            return BAD;
        }
        return words.addNamed(word, thing, as == AS_NOUN) ? 0 : NO;
    }

    public int form(int word, int form) {
        if (!words.isOwn(word, SORT_VERB) || !isBelow(form, FORMS)) {
            return BAD;
        }
        int was = words.formOf(word);
        words.setForm(word, form);
        return was;
    }

    public int same(int word, int other) {
        if (!words.has(word) || !words.has(other) || other >= word) {
            return BAD;
        }
        if (words.sortOf(word) != words.sortOf(other) || words.rootOf(other) != other) {
            return BAD;
        }
        if (words.rootOf(word) != word || words.isRootOfOthers(word) || words.isInUse(word)) {
            return NO;
        }
        words.setRoot(word, other);
        return 0;
    }

    public int line() {
        reader.begin(tape);
        tape.clear();
        boolean more = true;
        for (int i = 0; more && i <= MOST_BYTES; i++) {
            more = reader.readOrder();
        }
        return reader.faultNumber() == 0 ? orders.size() : FAULT_BASE - reader.faultPlace();
    }

    public int fault() {
        return reader.faultNumber();
    }

    public int order(int i, int what) {
        Order found = orders.at(i);
        if (found == null) {
            return BAD;
        }
        switch (what) {
            case 0: return found.actor;
            case 1: return found.verb;
            case 2: return found.preposition;
            case 3: return found.first.size();
            case 4: return found.second.size();
            default: return BAD;
        }
    }

    public int given(int i, int side, int k) {
        Order found = orders.at(i);
        if (found == null || side < 0 || side > 1) {
            return BAD;
        }
        int thing = side == 0 ? found.first.at(k) : found.second.at(k);
        return thing == NONE ? BAD : thing;
    }

    public int table(int pronoun, int k) {
        return isBelow(pronoun, KINDS) ? table.meantBy(pronoun).at(k) : BAD;
    }

    public int count(int what) {
        switch (what) {
            case 0: return things.size();
            case 1: return words.size();
            case 2: return tape.size();
            case 3: return orders.size();
            case 4: return orders.total();
            default: return BAD;
        }
    }

    private static boolean isBelow(int number, int bound) {
        return number >= 0 && number < bound;
    }

    /** Sets of things are the bits of an int: there are fewer things than bits. */
    private static boolean isIn(int set, int thing) {
        return thing >= 0 && thing < MOST_THINGS && (set >> thing & 1) != 0;
    }

    private static int bitOf(int thing) {
        return thing >= 0 && thing < MOST_THINGS ? 1 << thing : 0;
    }

    /** The things that there are. */
    private static final class Things {
        private final int[] kinds = new int[MOST_THINGS];
        private final int[] owners = new int[MOST_THINGS];
        private int seen;
        private int size;

        Things() {
            Arrays.fill(owners, NONE);
            kinds[PLAYER] = KIND_HIM;
            seen = bitOf(PLAYER);
            size = 1;
        }

        int size() {
            return size;
        }

        boolean has(int thing) {
            return thing >= 0 && thing < size;
        }

        int add(int kind) {
            if (size >= MOST_THINGS) {
                return FULL;
            }
            kinds[size] = kind;
            seen |= bitOf(size);
            size++;
            return size - 1;
        }

        boolean isSeen(int thing) {
            return thing >= 0 && thing < size && (seen >> thing & 1) != 0;
        }

        int seenOnes() {
            return seen;
        }

        void setSeen(int thing, boolean is) {
            seen = is ? seen | bitOf(thing) : seen & ~bitOf(thing);
        }

        int kindOf(int thing) {
            return thing >= 0 && thing < size ? kinds[thing] : NONE;
        }

        void setKind(int thing, int kind) {
            if (thing >= 0 && thing < size) {
                kinds[thing] = kind;
            }
        }

        boolean isPerson(int thing) {
            return thing >= 0 && thing < size && (kinds[thing] == KIND_HIM || kinds[thing] == KIND_HER);
        }

        void setOwner(int thing, int owner) {
            if (thing >= 0 && thing < size) {
                owners[thing] = owner;
            }
        }

        /** The set of the things whose OWNER is in a set. */
        int ownedBy(int ownerSet) {
            int owned = 0;
            for (int thing = 0; thing < size; thing++) {
                if (isIn(ownerSet, owners[thing])) {
                    owned |= bitOf(thing);
                }
            }
            return owned;
        }
    }

    /** Things in order, each once. */
    private static final class ThingList {
        private final int[] things = new int[MOST_THINGS];
        private int size;
        private int members;

        int size() {
            return size;
        }

        int members() {
            return members;
        }

        int at(int k) {
            return k >= 0 && k < size ? things[k] : NONE;
        }

        void clear() {
            size = 0;
            members = 0;
        }

        void add(int thing) {
            if (thing < 0 || thing >= MOST_THINGS || size >= MOST_THINGS) {
                return;
            }
            int bit = 1 << thing;
            if ((members & bit) == 0) {
                things[size] = thing;
                size++;
                members |= bit;
            }
        }

        void remove(int unwanted) {
            int kept = 0;
            for (int i = 0; i < size; i++) {
                if (!isIn(unwanted, things[i])) {
                    things[kept] = things[i];
                    kept++;
                }
            }
            size = kept;
            members &= ~unwanted;
        }

        void copyFrom(ThingList other) {
            for (int i = 0; i < other.size; i++) {
                things[i] = other.things[i];
            }
            size = other.size;
            members = other.members;
        }
    }

    /** The bytes that were fed and are no word or line yet. */
    private static final class Tape {
        private final int[] bytes = new int[MOST_BYTES];
        private int size;

        int size() {
            return size;
        }

        void clear() {
            size = 0;
        }

        boolean append(int n, long packed) {
            if (n > MOST_BYTES - size) {
                return false;
            }
            for (int i = 0; i < n; i++) {
                bytes[size] = (int) (packed >> (8 * i) & 255);
                size++;
            }
            return true;
        }

        int at(int place) {
            return place >= 0 && place < size ? bytes[place] : NONE;
        }

        /** 1 to 26 for a letter, small or great; 0 for all else, also beyond the ends. */
        int letterAt(int place) {
            int found = at(place);
            if (found >= 'a' && found <= 'z') {
                return found - 'a' + 1;
            }
            return found >= 'A' && found <= 'Z' ? found - 'A' + 1 : 0;
        }

        /** A number that only rows with the same first eight letters share. */
        long keyAt(int place) {
            long key = 0;
            for (int i = 0; i < MOST_LETTERS; i++) {
                int letter = letterAt(place + i);
                if (letter == 0) {
                    break;
                }
                key = key * 27 + letter;
            }
            return key;
        }

        boolean isPlainWord() {
            for (int i = 0; i < size; i++) {
                if (bytes[i] < 'a' || bytes[i] > 'z') {
                    return false;
                }
            }
            return size >= 1 && size <= MOST_LETTERS;
        }
    }

    /** The WORDS that were told, and those that are FIXED. */
    private static final class Words {
        private final long[] fixedKeys = new long[FIXED_WORDS];
        private final long[] keys = new long[MOST_WORDS];
        private final int[] sorts = new int[MOST_WORDS];
        private final int[] forms = new int[MOST_WORDS];
        private final int[] nouns = new int[MOST_WORDS];
        private final int[] adjectives = new int[MOST_WORDS];
        private final int[] roots = new int[MOST_WORDS];
        private int size;

        Words() {
            int word = 0;
            for (int i = 0; i < FIXED.length() && word < FIXED_WORDS; i++) {
                char letter = FIXED.charAt(i);
                if (letter == ' ') {
                    word++;
                } else {
                    fixedKeys[word] = fixedKeys[word] * 27 + (letter - 'a' + 1);
                }
            }
        }

        int size() {
            return size;
        }

        boolean has(int word) {
            return word >= 0 && word < size;
        }

        int fixedNumber(long key) {
            for (int i = 0; i < FIXED_WORDS; i++) {
                if (fixedKeys[i] == key) {
                    return i;
                }
            }
            return NONE;
        }

        int find(long key) {
            for (int i = 0; i < size; i++) {
                if (keys[i] == key) {
                    return i;
                }
            }
            return NONE;
        }

        int add(long key, int sort) {
            if (size >= MOST_WORDS) {
                return FULL;
            }
            keys[size] = key;
            sorts[size] = sort;
            roots[size] = size;
            size++;
            return size - 1;
        }

        int sortOf(int word) {
            return word >= 0 && word < size ? sorts[word] : NONE;
        }

        /** The word that a word is THE SAME as; itself, if there is none. */
        int rootOf(int word) {
            return word >= 0 && word < size ? roots[word] : NONE;
        }

        void setRoot(int word, int other) {
            if (word >= 0 && word < size) {
                roots[word] = other;
            }
        }

        boolean isOwn(int word, int sort) {
            return word >= 0 && word < size && sorts[word] == sort && roots[word] == word;
        }

        boolean isRootOfOthers(int word) {
            for (int i = 0; i < size; i++) {
                if (i != word && roots[i] == word) {
                    return true;
                }
            }
            return false;
        }

        boolean isInUse(int word) {
            return nounsOf(word) != 0 || adjectivesOf(word) != 0 || formOf(word) > ALONE;
        }

        int formOf(int word) {
            return word >= 0 && word < size ? forms[word] : ALONE;
        }

        void setForm(int word, int form) {
            if (word >= 0 && word < size) {
                forms[word] = form;
            }
        }

        int nounsOf(int word) {
            return word >= 0 && word < size ? nouns[word] : 0;
        }

        int adjectivesOf(int word) {
            return word >= 0 && word < size ? adjectives[word] : 0;
        }

        boolean addNamed(int word, int thing, boolean asNoun) {
            int named = asNoun ? nounsOf(word) : adjectivesOf(word);
            if (word < 0 || word >= size || isIn(named, thing)) {
                return false;
            }
            if (asNoun) {
                nouns[word] = named | bitOf(thing);
            } else {
                adjectives[word] = named | bitOf(thing);
            }
            return true;
        }
    }

    /** A line's TOKENS without those that are POLITE, so that these count for nothing. */
    private static final class Tokens {
        private final int[] kinds = new int[MOST_BYTES];
        private final int[] roots = new int[MOST_BYTES];
        private final int[] places = new int[MOST_BYTES];
        private int size;
        private int lineLength;

        int kindAt(int i) {
            return i >= 0 && i < size ? kinds[i] : END;
        }

        int wordAt(int i) {
            return i >= 0 && i < size ? roots[i] : NONE;
        }

        int placeAt(int i) {
            return i >= 0 && i < size ? places[i] : lineLength;
        }

        void split(Tape tape, Words words) {
            size = 0;
            lineLength = tape.size();
            for (int place = 0; place < lineLength; place++) {
                int found = tape.at(place);
                if (tape.letterAt(place) != 0) {
                    if (tape.letterAt(place - 1) == 0) {
                        addRow(tape.keyAt(place), place, words);
                    }
                } else if (found == ',') {
                    add(COMMA, NONE, place);
                } else if (found == '.') {
                    add(STOP, NONE, place);
                } else if (found != ' ') {
                    leaveOnlyStrangeByte(place);
                    return;
                }
            }
        }

        /** Reading must meet it ahead of all else in the line, so nothing else is left to read. */
        private void leaveOnlyStrangeByte(int place) {
            size = 0;
            add(STRANGE_BYTE, NONE, place);
        }

        private void addRow(long key, int place, Words words) {
            int fixed = words.fixedNumber(key);
            if (fixed != NONE) {
                add(fixed, NONE, place);
                return;
            }
            int root = words.rootOf(words.find(key));
            int sort = words.sortOf(root);
            if (sort != SORT_POLITE) {
                add(kindOfSort(sort), root, place);
            }
        }

        private static int kindOfSort(int sort) {
            switch (sort) {
                case SORT_NAME: return NAME;
                case SORT_VERB: return VERB;
                case SORT_PREPOSITION: return PREPOSITION;
                default: return STRANGE_WORD;
            }
        }

        private void add(int kind, int root, int place) {
            if (size < MOST_BYTES) {
                kinds[size] = kind;
                roots[size] = root;
                places[size] = place;
                size++;
            }
        }
    }

    /** What each pronoun means. */
    private static final class Table {
        private final ThingList it = new ThingList();
        private final ThingList him = new ThingList();
        private final ThingList her = new ThingList();
        private final ThingList them = new ThingList();

        ThingList meantBy(int pronoun) {
            switch (pronoun) {
                case KIND_IT: return it;
                case KIND_HIM: return him;
                case KIND_HER: return her;
                default: return them;
            }
        }

        void learn(ThingList list, Things things) {
            if (list.size() > 1) {
                them.copyFrom(list);
            } else if (list.size() == 1 && list.at(0) != PLAYER) {
                meantBy(things.kindOf(list.at(0))).copyFrom(list);
            }
        }
    }

    /** One ORDER. */
    private static final class Order {
        final ThingList first = new ThingList();
        final ThingList second = new ThingList();
        int actor;
        int verb;
        int preposition;

        void startVerb(int word) {
            verb = word;
            preposition = NONE;
            first.clear();
            second.clear();
        }

        void copyFrom(Order other) {
            actor = other.actor;
            verb = other.verb;
            preposition = other.preposition;
            first.copyFrom(other.first);
            second.copyFrom(other.second);
        }

        /** The set of all that must be SEEN when it is given again. */
        int members() {
            return bitOf(actor) | first.members() | second.members();
        }
    }

    /** The ORDERS of the latest line, and the latest ORDER of all lines. */
    private static final class Orders {
        private final Order[] kept = new Order[MOST_ORDERS];
        // Its own copy, as a new line's ORDERS take the places of the old ones.
        private final Order latest = new Order();
        private int size;
        private int total;

        Orders() {
            for (int i = 0; i < MOST_ORDERS; i++) {
                kept[i] = new Order();
            }
        }

        int size() {
            return size;
        }

        int total() {
            return total;
        }

        void startLine() {
            size = 0;
        }

        boolean areFull() {
            return size >= MOST_ORDERS;
        }

        Order at(int i) {
            return i >= 0 && i < size ? kept[i] : null;
        }

        Order latest() {
            return latest;
        }

        void keep(Order given) {
            if (size < MOST_ORDERS) {
                kept[size].copyFrom(given);
                latest.copyFrom(given);
                size++;
                total++;
            }
        }
    }

    /** Reads a line's TOKENS from the first to the last, until a FAULT is met. */
    private static final class Reader {
        private final Things things;
        private final Words words;
        private final Table table;
        private final Orders orders;
        private final Tokens tokens = new Tokens();
        private final Order draft = new Order();
        private final ThingList excluded = new ThingList();
        // THE ACTOR, until its first COMMAND has set THE TABLE by it.
        private final ThingList addressed = new ThingList();
        private int at;
        private int fault;
        private int faultToken;

        Reader(Things things, Words words, Table table, Orders orders) {
            this.things = things;
            this.words = words;
            this.table = table;
            this.orders = orders;
        }

        int faultNumber() {
            return fault;
        }

        int faultPlace() {
            return tokens.placeAt(faultToken);
        }

        void begin(Tape tape) {
            tokens.split(tape, words);
            orders.startLine();
            at = 0;
            fault = 0;
            faultToken = 0;
        }

        /** False: the line has no ORDER more, or a FAULT was met. */
        boolean readOrder() {
            skipStops();
            int kind = tokens.kindAt(at);
            if (kind == END) {
                return false;
            }
            if (kind == AGAIN) {
                return readAgain();
            }
            draft.actor = PLAYER;
            addressed.clear();
            if (kind != VERB && !readActor()) {
                return false;
            }
            for (int i = 0; i <= MOST_ORDERS; i++) {
                if (!readCommand()) {
                    return false;
                }
                boolean more = isCommandAnd();
                if (!more && !isOrderEnd()) {
                    return failMisplaced();
                }
                keepDraft();
                if (!more) {
                    return true;
                }
                at++;
            }
            return false;
        }

        private void skipStops() {
            for (int i = 0; i < MOST_BYTES && isStop(tokens.kindAt(at)); i++) {
                at++;
            }
        }

        private static boolean isStop(int kind) {
            return kind == STOP || kind == THEN;
        }

        private boolean isOrderEnd() {
            int kind = tokens.kindAt(at);
            return kind == END || isStop(kind);
        }

        private boolean isCommandAnd() {
            return tokens.kindAt(at) == AND && tokens.kindAt(at + 1) == VERB;
        }

        private boolean readAgain() {
            if (orders.total() == 0) {
                return fail(FAULT_UNKNOWN, at);
            }
            if ((orders.latest().members() & ~things.seenOnes()) != 0) {
                return fail(FAULT_UNSEEN, at);
            }
            if (orders.areFull()) {
                return fail(FAULT_TOO_MANY, at);
            }
            at++;
            if (!isOrderEnd()) {
                return failMisplaced();
            }
            orders.keep(orders.latest());
            return true;
        }

        private boolean readActor() {
            boolean isTold = tokens.kindAt(at) == TELL;
            if (isTold) {
                at++;
            }
            int start = at;
            if (!readItem(addressed)) {
                return false;
            }
            int who = addressed.at(0);
            if (addressed.size() != 1 || who == PLAYER || !things.isPerson(who)) {
                return fail(FAULT_ACTOR, start);
            }
            if (tokens.kindAt(at) != (isTold ? TO : COMMA)) {
                return failMisplaced();
            }
            at++;
            draft.actor = who;
            return true;
        }

        private boolean readCommand() {
            if (tokens.kindAt(at) != VERB) {
                return failMisplaced();
            }
            if (orders.areFull()) {
                return fail(FAULT_TOO_MANY, at);
            }
            int form = words.formOf(tokens.wordAt(at));
            draft.startVerb(tokens.wordAt(at));
            at++;
            if (form == ALONE) {
                return true;
            }
            if (!readList(draft.first)) {
                return false;
            }
            boolean isPreposition = tokens.kindAt(at) == PREPOSITION;
            if (form == WITH_THINGS || form == WITH_EITHER && !isPreposition) {
                return true;
            }
            if (!isPreposition) {
                return failMisplaced();
            }
            draft.preposition = tokens.wordAt(at);
            at++;
            return readList(draft.second);
        }

        private void keepDraft() {
            orders.keep(draft);
            table.learn(addressed, things);
            addressed.clear();
            table.learn(draft.first, things);
            table.learn(draft.second, things);
        }

        private boolean readList(ThingList list) {
            ThingList target = list;
            int but = NONE;
            excluded.clear();
            for (int i = 0; i < MOST_BYTES; i++) {
                if (!readItem(target)) {
                    return false;
                }
                if (skipSeparator()) {
                    continue;
                }
                if (tokens.kindAt(at) != BUT || but != NONE) {
                    break;
                }
                but = at;
                at++;
                target = excluded;
            }
            list.remove(excluded.members());
            return list.size() > 0 || fail(FAULT_NOTHING, but);
        }

        private boolean skipSeparator() {
            int start = at;
            if (tokens.kindAt(at) == COMMA) {
                at++;
            }
            if (tokens.kindAt(at) == AND && tokens.kindAt(at + 1) != VERB) {
                at++;
            }
            return at > start;
        }

        private boolean readItem(ThingList target) {
            int kind = tokens.kindAt(at);
            if (isFromTable(kind) && !isTableReady(pronounOf(kind))) {
                return false;
            }
            if (kind == ALL) {
                return readAll(target);
            }
            boolean isWhose = isWhose(kind) || kind == HER && tokens.kindAt(at + 1) == NAME;
            if (!isWhose && isPronoun(kind)) {
                readPronoun(kind, target);
                return true;
            }
            int candidates = things.seenOnes();
            if (isWhose) {
                candidates &= things.ownedBy(ownersFor(kind));
            }
            if (isWhose || kind == THE || kind == A || kind == AN) {
                at++;
            }
            return tokens.kindAt(at) == NAME ? readNames(target, candidates) : failMisplaced();
        }

        private static boolean isPronoun(int kind) {
            return kind >= IT && kind <= YOURSELF;
        }

        private static boolean isWhose(int kind) {
            return kind >= HIS && kind <= MY;
        }

        private static boolean isFromTable(int kind) {
            return kind >= IT && kind <= THEM || kind >= HIS && kind <= THEIR;
        }

        /** The pronoun, by KIND, whose row of THE TABLE a word looks at. */
        private static int pronounOf(int kind) {
            switch (kind) {
                case IT: case ITS: return KIND_IT;
                case HIM: case HIS: return KIND_HIM;
                case HER: return KIND_HER;
                default: return KIND_THEM;
            }
        }

        private boolean isTableReady(int pronoun) {
            ThingList meant = table.meantBy(pronoun);
            if (meant.size() == 0) {
                return fail(FAULT_UNKNOWN, at);
            }
            boolean areSeen = (meant.members() & ~things.seenOnes()) == 0;
            return areSeen || fail(FAULT_UNSEEN, at);
        }

        private int ownersFor(int kind) {
            return kind == MY ? bitOf(PLAYER) : table.meantBy(pronounOf(kind)).members();
        }

        private boolean readAll(ThingList target) {
            int all = at;
            int added = 0;
            at++;
            for (int thing = 0; thing < things.size(); thing++) {
                // THE PLAYER and THE ACTOR are PERSONS, too.
                if (things.isSeen(thing) && !things.isPerson(thing)) {
                    target.add(thing);
                    added++;
                }
            }
            return added > 0 || fail(FAULT_NOTHING, all);
        }

        private void readPronoun(int kind, ThingList target) {
            at++;
            if (kind == ME || kind == MYSELF) {
                target.add(PLAYER);
            } else if (kind == YOURSELF) {
                target.add(draft.actor);
            } else {
                ThingList meant = table.meantBy(pronounOf(kind));
                for (int i = 0; i < meant.size(); i++) {
                    target.add(meant.at(i));
                }
            }
        }

        private boolean readNames(ThingList target, int seenCandidates) {
            int start = at;
            int candidates = seenCandidates;
            for (int i = 0; i < MOST_BYTES && tokens.kindAt(at) == NAME; i++) {
                int word = tokens.wordAt(at);
                at++;
                boolean isLast = tokens.kindAt(at) != NAME;
                candidates &= words.nounsOf(word) | (isLast ? 0 : words.adjectivesOf(word));
            }
            int meant = NONE;
            for (int thing = 0; thing < things.size(); thing++) {
                if (isIn(candidates, thing)) {
                    if (meant != NONE) {
                        return fail(FAULT_SEVERAL, start);
                    }
                    meant = thing;
                }
            }
            target.add(meant);
            return meant != NONE || fail(FAULT_NOTHING, start);
        }

        private boolean failMisplaced() {
            switch (tokens.kindAt(at)) {
                case STRANGE_BYTE: return fail(FAULT_BYTE, at);
                case STRANGE_WORD: return fail(FAULT_WORD, at);
                default: return fail(FAULT_MISPLACED, at);
            }
        }

        /** Always false, so that the methods that read can answer with it. */
        private boolean fail(int number, int token) {
            fault = number;
            faultToken = token;
            return false;
        }
    }
}
