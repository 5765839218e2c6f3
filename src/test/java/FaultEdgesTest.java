/** The boundary cases of THE FAULTS, sentence by sentence; a ^ stands ahead of the place of each. */
public final class FaultEdgesTest {
    public static void main(String[] args) {
        places();
        strangeByte();
        noWord();
        cannotStand();
        nothingByNames();
        nothingByAll();
        nothingByList();
        several();
        nothingInTable();
        againWithout();
        notSeenInTable();
        againNotSeen();
        noActor();
        eleventh();
        eleventhElsewhere();
        firstOfOneToken();
        itemAheadOfNext();
        whoseAtOnce();
        listAheadOfNext();
        seenWithoutFaults();
        Check.end();
    }

    private static void places() {
        Check.sentence("THE FAULTS, the first one that reading meets, at a TOKEN's first byte (the line's length at its end)");
        PronounOrders x = Check.world();
        Check.failsAt(x, "^xyzzy plugh", 2, 0);
        Check.failsAt(x, "   ^xyzzy", 2, 0);
        Check.failsAt(x, "look. take ^box. xyzzy", 5, 1);
        Check.failsAt(x, "look. take lamp ^xyzzy, box", 2, 1);
        Check.failsAt(x, "look.^,", 3, 1);
        Check.failsAt(x, "take^", 3, 0);
        Check.failsAt(x, "take   ^", 3, 0);
        Check.failsAt(x, "take please ^", 3, 0);
        Check.failsAt(x, "take lamp,^", 3, 0);
        Check.failsAt(x, "put lamp in^", 3, 0);
        Check.failsAt(x, "tell bob to^", 3, 0);
        Check.failsAt(x, "bob,^", 3, 0);
        Check.failsAt(x, "take" + " ".repeat(196) + "^", 3, 0);
        Check.failsAt(x, "take " + " ".repeat(190) + "^xyzzy", 2, 0);
    }

    private static void strangeByte() {
        Check.sentence("1 a byte that is in no TOKEN and not 32 (looked at ahead of all others, through the whole line)");
        PronounOrders x = Check.world();
        Check.failsAt(x, "^?", 1, 0);
        Check.failsAt(x, "look. xyzzy, and box it ^? !", 1, 0);
        Check.failsAt(x, "look.".repeat(11) + "^-", 1, 0);
        Check.failsAt(x, "lo^'ok", 1, 0);
        Check.failsAt(x, "look" + " ".repeat(195) + "^!", 1, 0);
        Check.due("no order", x.count(4), 0);
        for (int i = 0; i < 256; i += 64) {
            strangeBytes(i, i + 64);
        }
    }

    private static void strangeBytes(int from, int to) {
        PronounOrders x = Check.world();
        for (int i = from; i < to; i++) {
            boolean isLetter = i >= 'a' && i <= 'z' || i >= 'A' && i <= 'Z';
            boolean isPlain = isLetter || i == ',' || i == '.' || i == ' ';
            Check.due("two of byte " + i, x.feed(2, i << 8 | i), 2);
            int due = i == '.' || i == ' ' ? 0 : -10;
            Check.due("a line of it", x.line(), due);
            Check.due("its fault", x.fault(), !isPlain ? 1 : isLetter ? 2 : i == ',' ? 3 : 0);
        }
    }

    private static void noWord() {
        Check.sentence("2 a row of letters that is no WORD, not FIXED");
        PronounOrders x = Check.world();
        String[] lines = {"^xyzzy", "look ^xyzzy", "look. ^xyzzy", "take ^xyzzy", "take the ^xyzzy", "take lamp ^xyzzy",
            "take lamp, ^xyzzy", "take lamp and ^xyzzy", "take lamp but ^xyzzy", "put lamp ^xyzzy", "put lamp in ^xyzzy",
            "tell ^xyzzy", "tell bob ^xyzzy", "tell bob to ^xyzzy", "bob ^xyzzy", "bob, ^xyzzy", "my ^xyzzy", "take all ^xyzzy",
            "take me ^xyzzy", "look then ^xyzzy"};
        for (String line : lines) {
            Check.failsAt(x, line, 2, line.startsWith("look.") || line.startsWith("look then") ? 1 : 0);
        }
        x = Check.world();
        Check.failsAt(x, "^lam", 2, 0);
        Check.failsAt(x, "^lamps", 2, 0);
        Check.failsAt(x, "^b", 2, 0);
        Check.failsAt(x, "^thenn", 2, 0);
        Check.failsAt(x, "^abcdefghijklmnopqrstuvwxyz", 2, 0);
        Check.due("told now", Check.word(x, "b", 1), 18);
        Check.reads(x, "b", 1);
    }

    private static void cannotStand() {
        Check.sentence("3 a TOKEN that cannot stand there");
        String[] atOrder = {"and", "to", "but", ",", "in"};
        String[] atItem = {"and look", "to", "but", ",", "in", "then", ".", "tell", "again", "look", ""};
        String[] atName = {"the", "a", "an", "my", "its", "it", "her", "me", "all", "and", "to", "but", ",", "in", ".", "again", ""};
        String[] behindItem = {"the", "my", "it", "her", "me", "all", "to", "in", "tell", "again", "look"};
        String[] atVerb = {"lamp", "the", "it", "me", "all", "and", "to", "but", ",", "in", ".", "then", "again", "tell", ""};
        standNot("", atOrder);
        standNot("take ", atItem);
        standNot("put lamp in ", atItem);
        standNot("tell ", atItem);
        standNot("take the ", atName);
        standNot("take my ", atName);
        standNot("take lamp ", behindItem);
        standNot("take lamp but coins ", behindItem);
        standNot("bob, ", atVerb);
        standNot("tell bob to ", atVerb);
        standNot("put lamp ", new String[] {"the", "it", "to", "then", ".", "look", "and look", "again", ""});
        standNot("tell bob ", new String[] {"the", "it", "look", "and", ",", ".", "then", "but", "in", "again", ""});
        standNot("bob ", new String[] {"the", "it", "look", "and", "to", ".", "then", "but", "in", "again", ""});
        standNot("look ", new String[] {"the", "it", "look", "and", "to", "but", ",", "in", "again", "tell", "lamp", "me", "all"});
    }

    private static void standNot(String before, String[] tokens) {
        PronounOrders x = Check.world();
        for (String token : tokens) {
            Check.failsAt(x, before + "^" + token, 3, 0);
        }
    }

    private static void nothingByNames() {
        Check.sentence("4 nothing is meant: by NAMES, none being SEEN (at its first NAME)");
        PronounOrders x = Check.world();
        Check.failsAt(x, "take ^red", 4, 0);
        Check.failsAt(x, "take the ^red coins", 4, 0);
        Check.failsAt(x, "take lamp, an ^red red ann", 4, 0);
        Check.failsAt(x, "take my ^red lamp", 4, 0);
        Check.failsAt(x, "put lamp in ^blue lamp", 4, 0);
        Check.failsAt(x, "take lamp but ^blue lamp", 4, 0);
        Check.failsAt(x, "tell the ^red bob to look", 4, 0);
        Check.failsAt(x, "^red, look", 4, 0);
        x.see(1, false);
        Check.failsAt(x, "take ^lamp", 4, 0);
        Check.failsAt(x, "take ^lantern", 4, 0);
        x.see(2, false);
        Check.reads(x, "take box", 1);
        x.see(6, false);
        Check.failsAt(x, "take ^box", 4, 0);
        x.see(3, false);
        Check.failsAt(x, "^bob, look", 4, 0);
    }

    private static void nothingByAll() {
        Check.sentence("4 nothing is meant: or by all (at all)");
        PronounOrders x = Check.world();
        for (int thing : new int[] {1, 2, 5}) {
            x.see(thing, false);
        }
        Check.reads(x, "take all", 1);
        Check.failsAt(x, "take all ^but blue box", 4, 0);
        x.see(6, false);
        Check.failsAt(x, "take ^all", 4, 0);
        Check.failsAt(x, "take tom, please ^all xyzzy", 4, 0);
        Check.failsAt(x, "take tom but ^all", 4, 0);
        Check.failsAt(x, "use tom in ^all", 4, 0);
        Check.failsAt(x, "tell ^all to look", 4, 0);
        Check.failsAt(x, "ann, take ^all", 4, 0);
        PronounOrders y = new PronounOrders();
        Check.word(y, "take", 1);
        y.form(0, 1);
        Check.failsAt(y, "take ^all", 4, 0);
        y.thing(1);
        y.thing(2);
        Check.failsAt(y, "take ^all", 4, 0);
        y.thing(3);
        Check.reads(y, "take all", 1);
    }

    private static void nothingByList() {
        Check.sentence("4 nothing is meant: by a LIST of which nothing is left (at but)");
        PronounOrders x = Check.world();
        Check.failsAt(x, "take lamp ^but lamp", 4, 0);
        Check.failsAt(x, "take lamp, coins, lamp ^but coins and lamp", 4, 0);
        Check.failsAt(x, "take all please ^but please all", 4, 0);
        Check.failsAt(x, "put lamp in tom ^but tom", 4, 0);
        Check.failsAt(x, "put lamp ^but all in xyzzy", 4, 0);
        Check.failsAt(x, "take me ^but myself", 4, 0);
        Check.failsAt(x, "bob, take yourself ^but bob", 4, 0);
        Check.failsAt(x, "look and take lamp ^but lamp and look", 4, 1);
        Check.reads(x, "take lamp, coins but coins", 1);
        Check.failsAt(x, "take it ^but lamp", 4, 0);
        Check.reads(x, "take all but it", 1);
    }

    private static void several() {
        Check.sentence("5 NAMES of which several are meant that are SEEN (at the first NAME)");
        PronounOrders x = Check.world();
        Check.failsAt(x, "take ^box", 5, 0);
        Check.failsAt(x, "take the ^box", 5, 0);
        Check.failsAt(x, "take lamp but a please ^box", 5, 0);
        Check.failsAt(x, "take ^box box box", 5, 0);
        Check.failsAt(x, "^box, look", 5, 0);
        Check.failsAt(x, "tell the ^box to look", 5, 0);
        x.own(2, 0);
        Check.reads(x, "take my box", 1);
        x.own(6, 0);
        Check.failsAt(x, "take my ^box", 5, 0);
        Check.reads(x, "take my blue box", 1);
        x.see(6, false);
        Check.reads(x, "take box. take my box", 2);
        Check.order(x, 0, "0 0 -4 [2] []");
        // Two nouns, one of them THE PLAYER, who is always SEEN.
        x.name(7, 0, 0);
        Check.failsAt(x, "take ^lamp", 5, 0);
        x.see(1, false);
        Check.reads(x, "take lamp", 1);
        Check.order(x, 0, "0 0 -4 [0] []");
    }

    private static void nothingInTable() {
        Check.sentence("6 a pronoun, or WHOSE, for which THE TABLE has nothing (at it)");
        String[] pronouns = {"it", "him", "her", "them", "its", "his", "their"};
        for (String pronoun : pronouns) {
            PronounOrders x = Check.world();
            Check.failsAt(x, "take ^" + pronoun, 6, 0);
            Check.failsAt(x, "take ^" + pronoun + " lamp", 6, 0);
            Check.failsAt(x, "take lamp, please ^" + pronoun, 6, 0);
            Check.failsAt(x, "take lamp but ^" + pronoun, 6, 0);
            Check.failsAt(x, "use lamp in ^" + pronoun, 6, 0);
            Check.failsAt(x, "^" + pronoun + ", look", 6, 0);
            Check.failsAt(x, "tell ^" + pronoun + " to look", 6, 0);
        }
        PronounOrders x = Check.world();
        Check.reads(x, "take lamp", 1);
        Check.failsAt(x, "take it. take ^him", 6, 1);
        Check.failsAt(x, "take ^her", 6, 0);
        Check.failsAt(x, "take ^them", 6, 0);
        Check.failsAt(x, "ann, take ^her", 6, 0);
        // my, me, myself and yourself need no table.
        Check.reads(x, "take me. take myself. take yourself", 3);
        Check.failsAt(x, "take my ^lamp", 4, 0);
    }

    private static void againWithout() {
        Check.sentence("6 again without an ORDER (at it)");
        PronounOrders x = Check.world();
        Check.failsAt(x, "^again", 6, 0);
        Check.failsAt(x, ". then please ^again", 6, 0);
        Check.failsAt(x, "^again xyzzy", 6, 0);
        Check.failsAt(x, "^again, look", 6, 0);
        Check.failsAt(x, "take ^xyzzy", 2, 0);
        Check.failsAt(x, "^again. look", 6, 0);
        Check.failsAt(x, "look ^lamp", 3, 0);
        Check.failsAt(x, "^again", 6, 0);
        Check.reads(x, "look. again", 2);
        Check.reads(x, "again", 1);
    }

    private static void notSeenInTable() {
        Check.sentence("7 a pronoun, or WHOSE, for which some are not SEEN (at it)");
        String[][] pronouns = {{"it", "its"}, {"him", "his"}, {"her", "her"}, {"them", "their"}};
        int[] things = {1, 3, 4, 5};
        PronounOrders x = Check.world();
        Check.reads(x, "take lamp. take bob. take ann. take coins, me", 4);
        for (int i = 0; i < 4; i++) {
            x.own(2, things[i]);
            x.see(things[i], false);
            Check.failsAt(x, "take tom, ^" + pronouns[i][0], 7, 0);
            Check.failsAt(x, "use me in ^" + pronouns[i][1] + " box", 7, 0);
            Check.failsAt(x, "^" + pronouns[i][0] + ", look", 7, 0);
            x.see(things[i], true);
            Check.reads(x, "take me but tom. use me in " + pronouns[i][0], 2);
        }
        PronounOrders y = Check.world();
        Check.reads(y, "take lamp, coins, me, tom", 1);
        y.see(7, false);
        Check.failsAt(y, "take ^them", 7, 0);
        Check.failsAt(y, "take ^them but tom", 7, 0);
        Check.failsAt(y, "take lamp but ^them", 7, 0);
        y.see(7, true);
        Check.reads(y, "take them", 1);
        y.see(1, false);
        Check.failsAt(y, "take ^their box", 7, 0);
    }

    private static void againNotSeen() {
        Check.sentence("7 again with things, or an ACTOR, that are not (at it)");
        PronounOrders x = Check.world();
        Check.reads(x, "bob, put me, lamp, coins in yourself, red box", 1);
        for (int thing : new int[] {3, 1, 5, 2}) {
            x.see(thing, false);
            Check.failsAt(x, "please ^again", 7, 0);
            Check.failsAt(x, "^again xyzzy", 7, 0);
            x.see(thing, true);
            Check.reads(x, "again", 1);
        }
        for (int thing : new int[] {4, 6, 7}) {
            x.see(thing, false);
        }
        Check.reads(x, "again", 1);
        Check.reads(x, "bob, look", 1);
        x.see(3, false);
        Check.failsAt(x, "^again", 7, 0);
        Check.reads(x, "take lamp but me. again", 2);
        Check.reads(x, "look", 1);
        x.see(1, false);
        Check.reads(x, "again", 1);
    }

    private static void noActor() {
        Check.sentence("8 one who is no PERSON, or THE PLAYER, or more than one (at the ITEM's first TOKEN)");
        PronounOrders x = Check.world();
        Check.failsAt(x, "^lamp, look", 8, 0);
        Check.failsAt(x, "^coins, look", 8, 0);
        Check.failsAt(x, "please ^the red lamp, look", 8, 0);
        Check.failsAt(x, "tell ^a lamp to look", 8, 0);
        for (String player : new String[] {"me", "myself", "yourself"}) {
            Check.failsAt(x, "^" + player + ", look", 8, 0);
            Check.failsAt(x, "tell ^" + player + " to look", 8, 0);
        }
        Check.failsAt(x, "bob, look. ^yourself, look", 8, 1);
        Check.failsAt(x, "^all, look", 8, 0);
        Check.reads(x, "take bob, ann", 1);
        Check.failsAt(x, "^them, look", 8, 0);
        Check.reads(x, "take coins", 1);
        Check.failsAt(x, "tell ^them to look", 8, 0);
        x.turn(5, 2);
        Check.reads(x, "them, look", 1);
        Check.order(x, 0, "5 2 -4 [] []");
        x.own(1, 0);
        Check.failsAt(x, "^my lamp, look", 8, 0);
        x.turn(1, 1);
        Check.reads(x, "my lamp, look", 1);
        for (int thing : new int[] {2, 6}) {
            x.see(thing, false);
        }
        Check.reads(x, "take coins", 1);
        x.turn(5, 0);
        // all is one thing now, but no PERSON.
        Check.failsAt(x, "^all, look", 8, 0);
        x.name(14, 0, 0);
        x.see(7, false);
        Check.failsAt(x, "^tom, look", 8, 0);
    }

    private static void eleventh() {
        Check.sentence("9 the eleventh ORDER (at its VERB, or again)");
        PronounOrders x = Check.world();
        String ten = "look.".repeat(10);
        Check.reads(x, ten, 10);
        Check.failsAt(x, ten + "^look", 9, 10);
        Check.failsAt(x, ten + "^again", 9, 10);
        Check.failsAt(x, ten + "please ^take lamp", 9, 10);
        Check.failsAt(x, ten + "^take xyzzy", 9, 10);
        Check.failsAt(x, ten + "^again xyzzy", 9, 10);
        Check.failsAt(x, ten + "bob, ^look", 9, 10);
        Check.failsAt(x, ten + "tell bob to ^look", 9, 10);
        String nine = "look.".repeat(9);
        Check.reads(x, nine + "take lamp", 10);
        Check.failsAt(x, nine + "look and ^look", 9, 10);
        Check.failsAt(x, nine + "take lamp and ^look", 9, 10);
        Check.failsAt(x, nine + "bob, take lamp and ^look", 9, 10);
        Check.failsAt(x, nine + "again. ^again", 9, 10);
        Check.reads(x, "look and ".repeat(9) + "look", 10);
        Check.failsAt(x, "look and ".repeat(10) + "^look and look", 9, 10);
        Check.reads(x, nine + "again" + ".then".repeat(10), 10);
        Check.due("orders of all lines", x.count(4), 160);
        Check.reads(x, "look", 1);
    }

    private static void eleventhElsewhere() {
        Check.sentence("9 the eleventh ORDER: what is no VERB nor again behind the tenth has its own FAULT");
        PronounOrders x = Check.world();
        String ten = "look.".repeat(10);
        Check.failsAt(x, ten + "^xyzzy", 2, 10);
        Check.failsAt(x, ten + "^and", 3, 10);
        Check.failsAt(x, ten + "^lamp, look", 8, 10);
        Check.failsAt(x, ten + "^box, look", 5, 10);
        Check.failsAt(x, ten + "bob ^look", 3, 10);
        Check.failsAt(x, ten + "bob, ^again", 3, 10);
        Check.failsAt(x, ten + "bob, ^", 3, 10);
        Check.failsAt(x, ten + "^?", 1, 0);
        Check.reads(x, ten + " . please then", 10);
        String nine = "look.".repeat(9);
        Check.failsAt(x, nine + "look ^and lamp", 3, 9);
        Check.failsAt(x, nine + "look ^and again", 3, 9);
        Check.failsAt(x, nine + "take ^xyzzy", 2, 9);
    }

    private static void firstOfOneToken() {
        Check.sentence("(Of one TOKEN the first of these.");
        PronounOrders x = Check.world();
        // 2 ahead of 3: no row of letters like that could stand anywhere.
        Check.failsAt(x, "look ^xyzzy", 2, 0);
        // 3 ahead of 6: again, it and its where they cannot stand.
        Check.failsAt(x, "bob, ^again", 3, 0);
        Check.failsAt(x, "look ^it", 3, 0);
        Check.failsAt(x, "take the ^its lamp", 3, 0);
        Check.failsAt(x, "take ^again", 3, 0);
        // 4 ahead of 8, 5 ahead of 8, 6 ahead of 8, 7 ahead of 8.
        Check.failsAt(x, "^red, look", 4, 0);
        Check.failsAt(x, "^box, look", 5, 0);
        Check.failsAt(x, "^it, look", 6, 0);
        Check.reads(x, "take lamp", 1);
        Check.failsAt(x, "^it, look", 8, 0);
        x.see(1, false);
        Check.failsAt(x, "^it, look", 7, 0);
        // 3 ahead of 7.
        Check.failsAt(x, "look ^it", 3, 0);
        Check.failsAt(x, "look ^again", 3, 0);
        // 3 ahead of 9.
        x.see(1, true);
        String nine = "look.".repeat(9);
        Check.failsAt(x, nine + "look. bob, ^again", 3, 10);
        Check.failsAt(x, nine + "look ^look", 3, 9);
        Check.failsAt(x, nine + "look. ^look, look", 9, 10);
    }

    private static void itemAheadOfNext() {
        Check.sentence("4 to 8 of an ITEM are met behind its last TOKEN, ahead of what the TOKEN behind that is");
        PronounOrders x = Check.world();
        Check.reads(x, "take bob", 1);
        x.see(3, false);
        String[] behind = {" xyzzy", " the", ",", " in", "", " and look", " to look"};
        for (String token : behind) {
            Check.failsAt(x, "take ^red" + token, 4, 0);
            Check.failsAt(x, "take ^box" + token, 5, 0);
            Check.failsAt(x, "take ^it" + token, 6, 0);
            Check.failsAt(x, "take ^him" + token, 7, 0);
            Check.failsAt(x, "^the lamp" + token, 8, 0);
            Check.failsAt(x, "tell ^me" + token, 8, 0);
        }
        // The whole row of NAMES is looked at, not its beginning.
        Check.reads(x, "take red lamp. take blue box", 2);
        Check.failsAt(x, "take ^lamp red xyzzy", 4, 0);
    }

    private static void whoseAtOnce() {
        Check.sentence("6, 7 of WHOSE at once, ahead of what stands behind it");
        PronounOrders x = Check.world();
        String[] behind = {" xyzzy", " the", ",", " in", "", " red", " box", " it"};
        for (String token : behind) {
            Check.failsAt(x, "take ^his" + token, 6, 0);
            Check.failsAt(x, "^its" + token, 6, 0);
        }
        Check.reads(x, "take bob, ann", 1);
        x.see(4, false);
        for (String token : behind) {
            Check.failsAt(x, "take ^their" + token, 7, 0);
        }
        x.see(4, true);
        Check.failsAt(x, "take their ^xyzzy", 2, 0);
        Check.failsAt(x, "take their ^the", 3, 0);
        Check.failsAt(x, "take their^", 3, 0);
        Check.failsAt(x, "take their ^box", 4, 0);
    }

    private static void listAheadOfNext() {
        Check.sentence("4 of a LIST behind its last ITEM likewise.");
        PronounOrders x = Check.world();
        String[] behind = {" xyzzy", " the", " in", "", " and look", " to", " but lamp", " it", "."};
        for (String token : behind) {
            Check.failsAt(x, "take lamp ^but lantern" + token, 4, 0);
        }
        // An ITEM more may follow a SEP: the LIST is not at its end.
        Check.failsAt(x, "take lamp but lamp, ^xyzzy", 2, 0);
        Check.failsAt(x, "take lamp but lamp and ^xyzzy", 2, 0);
        Check.failsAt(x, "take lamp but lamp,^", 3, 0);
        Check.failsAt(x, "take lamp but lamp, ^box", 5, 0);
        Check.failsAt(x, "take lamp but ^box", 5, 0);
        Check.failsAt(x, "put lamp ^but lamp xyzzy", 4, 0);
    }

    private static void seenWithoutFaults() {
        Check.sentence("Whether a VERB, a NAME stands behind a TOKEN is seen without meeting FAULTS there.)");
        PronounOrders x = Check.world();
        Check.failsAt(x, "look ^and xyzzy", 3, 0);
        Check.failsAt(x, "look ^and it", 3, 0);
        Check.failsAt(x, "put lamp in coins and ^xyzzy", 2, 0);
        Check.failsAt(x, "take ^her xyzzy", 6, 0);
        Check.failsAt(x, "take ^her box", 6, 0);
        Check.failsAt(x, "take ^her red", 6, 0);
        Check.reads(x, "take ann", 1);
        Check.failsAt(x, "take her ^xyzzy", 2, 0);
        Check.failsAt(x, "take her and ^xyzzy", 2, 0);
        // The verb behind and is the eleventh ORDER's: that is met at it, when the tenth is kept.
        Check.failsAt(x, "look.".repeat(9) + "take ann and ^look", 9, 10);
        Check.table(x, "[] [] [4] []");
    }
}
