/** The boundary cases of the terms' part 3, but for THE FAULTS: tokens, grammar, meaning, THE TABLE, again. */
public final class GrammarEdgesTest {
    public static void main(String[] args) {
        letters();
        marks();
        polite();
        politeAlone();
        stops();
        orderStarts();
        actors();
        commands();
        commandForms();
        separators();
        but();
        items();
        herIsWhose();
        namesMean();
        whoseMeans();
        allMeans();
        personsMean();
        tableMeans();
        listMeans();
        tableOfOne();
        tableOfSeveral();
        tableByActor();
        tableInOrder();
        tableWhenUnderstood();
        again();
        againStays();
        Check.end();
    }

    private static void letters() {
        Check.sentence("rows of letters (A .. Z are a .. z)");
        PronounOrders x = new PronounOrders();
        Check.word(x, "az", 1);
        Check.reads(x, "az.AZ.aZ.Az", 4);
        for (String near : new String[] {"@", "[", "`", "{"}) {
            Check.failsAt(x, "az. ^" + near, 1, 0);
        }
        x.form(0, 1);
        Check.reads(x, "AZ ME. az YOURSELF THEN Az Myself", 3);
        Check.failsAt(x, "AZ ^IT", 6, 0);

        Check.sentence("of which the first eight count");
        Check.word(x, "bbbbbbbb", 1);
        Check.word(x, "ccccccc", 1);
        Check.reads(x, "bbbbbbbb. bbbbbbbbc. BBBBBBBBBBBBBBBB. " + "b".repeat(100), 4);
        Check.due("the last one's verb", x.order(3, 1), 1);
        Check.failsAt(x, "^bbbbbbb", 2, 0);
        Check.failsAt(x, "^bbbbbbbc", 2, 0);
        Check.failsAt(x, "^cccccccc", 2, 0);
        Check.failsAt(x, "^ccccccccccccccc", 2, 0);
        Check.reads(x, "az yourselfishness", 1);
        Check.reads(x, "b".repeat(200), 1);
        Check.failsAt(x, "az ^agains", 2, 0);
        Check.failsAt(x, "az ^mee", 2, 0);
        Check.failsAt(x, "az ^yoursel", 2, 0);
        Check.failsAt(x, "bbbbbbbbbbbb ^az", 3, 0);
    }

    private static void marks() {
        Check.sentence(", and . ; between them bytes 32");
        PronounOrders x = Check.world();
        Check.reads(x, "take lamp,coins,and tom.look.look", 3);
        Check.order(x, 0, "0 0 -4 [1,5,7] []");
        Check.reads(x, "bob,look", 1);
        Check.reads(x, "   take    lamp   ,   coins   .   look   ", 2);
        Check.failsAt(x, "take ^lampcoins", 2, 0);
        Check.failsAt(x, "^takelamp", 2, 0);
        Check.failsAt(x, "take^\tlamp", 1, 0);
        Check.failsAt(x, "take lamp^\n", 1, 0);
        Check.reads(x, "      ", 0);
        Check.reads(x, "", 0);
    }

    private static void polite() {
        Check.sentence("POLITE words count for nothing wherever they stand (also right behind a row of NAMES).");
        PronounOrders x = Check.world();
        x.own(6, 4);
        String[] tokens = ("then tell the ann to put red lamp , coins , and tom but tom in her blue box and look"
                + " then again .").split(" ");
        Check.reads(x, "take ann", 1);
        String plain = String.join(" ", tokens);
        Check.reads(x, plain, 3);
        for (int at = 0; at <= tokens.length; at++) {
            PronounOrders y = Check.world();
            y.own(6, 4);
            Check.reads(y, "take ann", 1);
            StringBuilder text = new StringBuilder();
            for (int i = 0; i <= tokens.length; i++) {
                text.append(i == at ? "please Please " : "").append(i < tokens.length ? tokens[i] + " " : "");
            }
            Check.reads(y, text.toString(), 3);
            Check.order(y, 0, "4 1 4 [1,5] [6]");
            Check.order(y, 2, "4 2 -4 [] []");
            Check.table(y, "[6] [] [4] [1,5]");
        }
        Check.reads(x, "take red please box please please , please coins please", 1);
        Check.order(x, 0, "0 0 -4 [2,5] []");
        Check.failsAt(x, "take please ^box please xyzzy", 5, 0);
        Check.failsAt(x, "take please ^red please coins please", 4, 0);
    }

    private static void politeAlone() {
        Check.sentence("POLITE words count for nothing wherever they stand");
        PronounOrders x = Check.world();
        Check.reads(x, "please", 0);
        Check.reads(x, "please please. please then please", 0);
        Check.reads(x, "please ".repeat(28), 0);
        Check.failsAt(x, "take please^", 3, 0);
        Check.failsAt(x, "please please ^and", 3, 0);
        Check.failsAt(x, "look please ^lamp", 3, 0);
        Check.due("one of eight letters", Check.word(x, "pleasest", 3), 18);
        Check.reads(x, "pleasestandthankyou look pleasest", 1);
        Check.failsAt(x, "look ^pleases", 2, 0);
        Check.failsAt(x, "please^0please", 1, 0);
    }

    private static void stops() {
        Check.sentence("line: { . or then } [ ORDER { . or then, once or more, [ ORDER ] } ]");
        PronounOrders x = Check.world();
        Check.reads(x, ".", 0);
        Check.reads(x, "then", 0);
        Check.reads(x, "...then then.. .", 0);
        Check.reads(x, ".".repeat(200), 0);
        Check.failsAt(x, ".".repeat(199) + "^,", 3, 0);
        Check.failsAt(x, ".".repeat(199) + "^x", 2, 0);
        Check.reads(x, "then. look", 1);
        Check.reads(x, "look", 1);
        Check.reads(x, "look.", 1);
        Check.reads(x, "look then", 1);
        Check.reads(x, "look.. then . look", 2);
        Check.reads(x, "look. then again.then take lamp then", 3);
        Check.failsAt(x, "look ^look", 3, 0);
        Check.failsAt(x, "look^,", 3, 0);
        Check.failsAt(x, "look. ^,", 3, 1);
        Check.failsAt(x, "^and look", 3, 0);
        Check.failsAt(x, "look. ^and look", 3, 1);
        Check.failsAt(x, "look ^and then look", 3, 0);
    }

    private static void orderStarts() {
        Check.sentence("(The third, if neither again, tell nor a VERB stands first.)");
        PronounOrders x = Check.world();
        x.own(3, 4);
        Check.reads(x, "take bob. take ann", 2);
        for (String item : new String[] {"bob", "the bob", "a bob", "an bob", "her bob", "her", "him", "bob bob", "please bob"}) {
            Check.reads(x, item + ", look", 1);
        }
        for (String token : new String[] {"and", "to", "but", ",", "in", "on", "the and", "his tell", "a verb"}) {
            int last = token.lastIndexOf(' ') + 1;
            Check.failsAt(x, token.substring(0, last) + "^" + token.substring(last) + " look", token.equals("a verb") ? 2 : 3, 0);
        }
        Check.failsAt(x, "^xyzzy, look", 2, 0);
        Check.failsAt(x, "bob^", 3, 0);
        Check.failsAt(x, "bob^.", 3, 0);
        Check.failsAt(x, "bob ^look", 3, 0);
        Check.failsAt(x, "bob ^to look", 3, 0);
        Check.failsAt(x, "bob, ^", 3, 0);
        Check.failsAt(x, "bob,^, look", 3, 0);
        Check.failsAt(x, "bob, ^again", 3, 0);
        Check.failsAt(x, "bob, ^ann, look", 3, 0);
        Check.failsAt(x, "bob, ^tell ann to look", 3, 0);
        Check.failsAt(x, "tell bob^, look", 3, 0);
        Check.failsAt(x, "tell ^to look", 3, 0);
        Check.failsAt(x, "tell^", 3, 0);
        Check.failsAt(x, "tell bob to^", 3, 0);
        Check.failsAt(x, "tell bob ^look", 3, 0);
    }

    private static void actors() {
        Check.sentence("Of the ITEM, which is one PERSON and not THE PLAYER, are THE ACTORS of its COMMANDS; else THE PLAYER is.");
        PronounOrders x = Check.world();
        Check.reads(x, "bob, look and take yourself and look. look. tell ann to take yourself. take yourself", 6);
        int[] actors = {3, 3, 3, 0, 4, 0};
        for (int i = 0; i < actors.length; i++) {
            Check.due("actor " + i, x.order(i, 0), actors[i]);
        }
        Check.order(x, 1, "3 0 -4 [3] []");
        Check.order(x, 4, "4 0 -4 [4] []");
        Check.order(x, 5, "0 0 -4 [0] []");
        Check.reads(x, "take tom, tom", 1);
        Check.reads(x, "him, look", 1);
        Check.order(x, 0, "7 2 -4 [] []");
    }

    private static void commands() {
        Check.sentence("COMMANDS: COMMAND { and COMMAND } (an and is such, if a VERB stands behind it; one in a LIST, too)");
        PronounOrders x = Check.world();
        Check.reads(x, "look and look", 2);
        Check.reads(x, "take lamp and look and take coins and tom and look", 4);
        Check.order(x, 2, "0 0 -4 [5,7] []");
        Check.reads(x, "take lamp but coins and look", 2);
        Check.reads(x, "put lamp in coins and tom and get ann", 2);
        Check.order(x, 0, "0 1 4 [1] [5,7]");
        Check.reads(x, "take lamp please and please look", 2);
        Check.failsAt(x, "put lamp ^and look in coins", 3, 0);
        Check.failsAt(x, "take ^and look", 3, 0);
        Check.failsAt(x, "take lamp, ^and look", 3, 0);
        Check.failsAt(x, "take lamp and ^and look", 3, 0);
        Check.failsAt(x, "look ^and", 3, 0);
        Check.failsAt(x, "look ^and again", 3, 0);
        Check.failsAt(x, "look ^and bob, look", 3, 0);
        Check.failsAt(x, "look ^and tell bob to look", 3, 0);
        Check.failsAt(x, "look^, look", 3, 0);
        Check.failsAt(x, "look^, and look", 3, 0);
        Check.failsAt(x, "take lamp and ^", 3, 0);
        Check.failsAt(x, "take lamp and ^again", 3, 0);
        Check.failsAt(x, "take lamp and ^then look", 3, 0);
        Check.failsAt(x, "take lamp and ^tell bob to look", 3, 0);
    }

    private static void commandForms() {
        Check.sentence("COMMAND: a VERB and, by its FORM, LIST or LIST PREPOSITION LIST. (With FORM 3 by whether a PREPOSITION stands behind the first LIST.)");
        PronounOrders x = Check.world();
        Check.reads(x, "use lamp. use lamp and coins. use lamp but coins. use lamp and look", 5);
        Check.reads(x, "use lamp in coins. use lamp and tom in coins and ann. use lamp please in please coins", 3);
        Check.order(x, 1, "0 3 4 [1,7] [5,4]");
        Check.reads(x, "use all but lamp in all but coins", 1);
        Check.order(x, 0, "0 3 4 [2,5,6] [1,2,6]");
        Check.failsAt(x, "use lamp in coins ^in tom", 3, 0);
        Check.failsAt(x, "use lamp ^to coins", 3, 0);
        Check.failsAt(x, "use ^in coins", 3, 0);
        Check.failsAt(x, "use lamp, ^in coins", 3, 0);
        Check.failsAt(x, "use lamp in ^, coins", 3, 0);
        Check.failsAt(x, "put lamp, ^", 3, 0);
        Check.failsAt(x, "take lamp ^in coins", 3, 0);
        Check.failsAt(x, "look ^in coins", 3, 0);
    }

    private static void separators() {
        Check.sentence("LIST: ITEM { SEP ITEM } [ but ITEM { SEP ITEM } ]; SEP: , or and or , and");
        PronounOrders x = Check.world();
        for (String sep : new String[] {",", " and ", ", and ", ",and "}) {
            Check.reads(x, "take lamp" + sep + "coins" + sep + "tom", 1);
            Check.order(x, 0, "0 0 -4 [1,5,7] []");
            Check.reads(x, "take all but lamp" + sep + "coins" + sep + "tom", 1);
            Check.order(x, 0, "0 0 -4 [2,6] []");
        }
        Check.reads(x, "take lamp" + ",lamp".repeat(38), 1);
        Check.order(x, 0, "0 0 -4 [1] []");
        Check.failsAt(x, "take lamp, ^, coins", 3, 0);
        Check.failsAt(x, "take lamp and^, coins", 3, 0);
        Check.failsAt(x, "take lamp and ^and coins", 3, 0);
        Check.failsAt(x, "take lamp, and ^and coins", 3, 0);
        Check.failsAt(x, "take lamp, and^, coins", 3, 0);
        Check.failsAt(x, "take ^, lamp", 3, 0);
        Check.failsAt(x, "take ^and lamp", 3, 0);
        Check.failsAt(x, "take lamp,^", 3, 0);
        Check.failsAt(x, "take lamp, and^", 3, 0);
        Check.failsAt(x, "take lamp and^", 3, 0);
        Check.failsAt(x, "take lamp,^.", 3, 0);
        Check.failsAt(x, "take lamp ^the coins", 3, 0);
    }

    private static void but() {
        Check.sentence("[ but ITEM { SEP ITEM } ]");
        PronounOrders x = Check.world();
        Check.failsAt(x, "take ^but lamp", 3, 0);
        Check.failsAt(x, "take lamp but^", 3, 0);
        Check.failsAt(x, "take lamp but ^but coins", 3, 0);
        Check.failsAt(x, "take lamp but coins ^but tom", 3, 0);
        Check.failsAt(x, "take lamp, ^but coins", 3, 0);
        Check.failsAt(x, "take lamp and ^but coins", 3, 0);
        Check.failsAt(x, "take lamp but ^, coins", 3, 0);
        Check.failsAt(x, "take lamp but ^and coins", 3, 0);
        Check.failsAt(x, "take lamp but coins,^", 3, 0);
        Check.failsAt(x, "take lamp but ^in", 3, 0);
        Check.failsAt(x, "bob ^but tom, look", 3, 0);
        Check.failsAt(x, "tell bob ^but tom to look", 3, 0);
        Check.reads(x, "put all but lamp in all but coins and look", 2);
        Check.order(x, 0, "0 1 4 [2,5,6] [1,2,6]");
    }

    private static void items() {
        Check.sentence("ITEM: all, or a PRONOUN, or [ the, a, an, or WHOSE ] and NAMES, one or more.");
        PronounOrders x = Check.world();
        x.own(2, 0);
        Check.reads(x, "take lamp. take bob. take ann. take coins", 4);
        Check.reads(x, "take all, it, him, her, them, me, myself, yourself", 1);
        Check.order(x, 0, "0 0 -4 [1,2,5,6,3,4,0] []");
        Check.reads(x, "take the lamp, a coins, an tom, my box, red box, the red red red box", 1);
        Check.order(x, 0, "0 0 -4 [1,5,7,2] []");
        for (String behind : new String[] {"lamp", "it", "me", "all", "the lamp", "my box", "her lamp"}) {
            Check.failsAt(x, "take all ^" + behind, 3, 0);
            Check.failsAt(x, "take it ^" + behind, 3, 0);
            Check.failsAt(x, "take me ^" + behind, 3, 0);
        }
        for (String behind : new String[] {"it", "me", "all", "the lamp", "my box", "her lamp", "", "and", ",", "in"}) {
            Check.failsAt(x, "take the ^" + behind, 3, 0);
            Check.failsAt(x, "take my ^" + behind, 3, 0);
        }
        Check.failsAt(x, "take all ^the lamp", 3, 0);
        Check.failsAt(x, "take ^to", 3, 0);
        Check.failsAt(x, "take ^again", 3, 0);
        Check.failsAt(x, "take lamp lamp ^in", 3, 0);
    }

    private static void herIsWhose() {
        Check.sentence("(her is WHOSE, if a NAME stands behind it.)");
        PronounOrders x = Check.world();
        x.own(1, 4);
        Check.reads(x, "take ann. take her. take her lamp. take her please lamp", 4);
        Check.order(x, 1, "0 0 -4 [4] []");
        Check.order(x, 2, "0 0 -4 [1] []");
        Check.order(x, 3, "0 0 -4 [1] []");
        Check.reads(x, "take her, lamp. take her and coins. take her and look. use her in her", 5);
        Check.order(x, 0, "0 0 -4 [4,1] []");
        Check.failsAt(x, "take her ^xyzzy", 2, 0);
        Check.failsAt(x, "take her ^look", 3, 0);
        Check.failsAt(x, "take her ^the lamp", 3, 0);
        Check.failsAt(x, "take her ^coins", 4, 0);
        x.turn(1, 2);
        Check.reads(x, "her lamp, look", 1);
        Check.order(x, 0, "1 2 -4 [] []");
        // her is the lamp now, which owns nothing.
        Check.failsAt(x, "her ^lamp, look", 4, 0);
        Check.reads(x, "her, look", 1);
    }

    private static void namesMean() {
        Check.sentence("of which the last NAME is a NOUN and each one before a NOUN or an ADJECTIVE the one that is SEEN");
        PronounOrders x = Check.world();
        Check.reads(x, "take red box", 1);
        Check.order(x, 0, "0 0 -4 [2] []");
        Check.failsAt(x, "take ^box red", 4, 0);
        Check.failsAt(x, "take ^red", 4, 0);
        Check.failsAt(x, "take ^red blue box", 4, 0);
        Check.failsAt(x, "take ^lamp box", 4, 0);
        Check.reads(x, "take red red box", 1);
        Check.reads(x, "take box blue box", 1);
        Check.order(x, 0, "0 0 -4 [6] []");
        Check.failsAt(x, "take ^box", 5, 0);
        x.see(2, false);
        Check.reads(x, "take box. take box box", 2);
        Check.order(x, 0, "0 0 -4 [6] []");
        Check.failsAt(x, "take ^red box", 4, 0);
        x.see(6, false);
        Check.failsAt(x, "take ^box", 4, 0);
        x.see(6, true);
        Check.due("bob is a noun of the player, too", x.name(9, 0, 0), 0);
        Check.failsAt(x, "take ^bob", 5, 0);
        x.see(3, false);
        Check.reads(x, "take bob", 1);
        Check.order(x, 0, "0 0 -4 [0] []");
    }

    private static void whoseMeans() {
        Check.sentence("(with WHOSE also: whose OWNER is one of those that are meant by it: my: THE PLAYER; his, her, its, their: what him, her, it, them are)");
        PronounOrders x = Check.world();
        Check.reads(x, "take lamp. take bob. take ann. take coins", 4);
        String[] whose = {"its", "his", "her", "their"};
        int[] owners = {1, 3, 4, 5};
        for (int i = 0; i < 4; i++) {
            x.own(2, owners[i]);
            for (int k = 0; k < 4; k++) {
                Check.due(whose[k] + " box of " + owners[i], Check.line(x, "put me in " + whose[k] + " box"),
                        k == i ? 1 : -21 - whose[k].length());
                Check.due("its fault", x.fault(), k == i ? 0 : 4);
                // The box has become it: the lamp is so again.
                Check.reads(x, "take lamp", 1);
            }
            Check.failsAt(x, "take my ^box", 4, 0);
        }
        x.own(2, 0);
        Check.reads(x, "take my box. bob, take my box", 2);
        Check.order(x, 1, "3 0 -4 [2] []");
        whoseIsThePlayer();
    }

    /** THE PLAYER is nobody's, also not its own, until it has an OWNER. */
    private static void whoseIsThePlayer() {
        PronounOrders x = Check.world();
        Check.due("hero", Check.word(x, "hero", 0), 18);
        x.name(18, 0, 0);
        Check.reads(x, "take hero. take bob. take ann", 3);
        Check.failsAt(x, "take my ^hero", 4, 0);
        Check.failsAt(x, "take his ^hero", 4, 0);
        x.own(0, 4);
        Check.failsAt(x, "take his ^hero", 4, 0);
        Check.reads(x, "take her hero", 1);
        Check.order(x, 0, "0 0 -4 [0] []");
        x.own(0, PronounOrders.NONE);
        Check.failsAt(x, "take her ^hero", 4, 0);
    }

    private static void allMeans() {
        Check.sentence("all: all that are SEEN but THE PLAYER, THE ACTOR and PERSONS, by numbers.");
        PronounOrders x = Check.world();
        Check.reads(x, "take all. bob, take all. take coins, all", 3);
        Check.order(x, 0, "0 0 -4 [1,2,5,6] []");
        Check.order(x, 1, "3 0 -4 [1,2,5,6] []");
        Check.order(x, 2, "0 0 -4 [5,1,2,6] []");
        x.see(2, false);
        x.turn(1, 1);
        x.turn(7, 3);
        Check.reads(x, "take all", 1);
        Check.order(x, 0, "0 0 -4 [5,6,7] []");
        x.see(5, false);
        x.see(6, false);
        Check.reads(x, "take all", 1);
        Check.order(x, 0, "0 0 -4 [7] []");
        Check.table(x, "[] [3] [] [7]");
        x.see(7, false);
        Check.failsAt(x, "take ^all", 4, 0);
    }

    private static void personsMean() {
        Check.sentence("me, myself: THE PLAYER; yourself: THE ACTOR.");
        PronounOrders x = Check.world();
        Check.reads(x, "take me. take myself. take yourself. take me, myself, yourself", 4);
        for (int i = 0; i < 4; i++) {
            Check.order(x, i, "0 0 -4 [0] []");
        }
        Check.reads(x, "tom, put me in yourself and take myself, yourself", 2);
        Check.order(x, 0, "7 1 4 [0] [7]");
        Check.order(x, 1, "7 0 -4 [0,7] []");
        Check.table(x, "[] [7] [] [0,7]");
    }

    private static void tableMeans() {
        Check.sentence("it, him, her, them (and WHOSE): what is in THE TABLE for it.");
        PronounOrders x = Check.world();
        Check.reads(x, "take coins, lamp, me", 1);
        Check.reads(x, "take them. take tom, them, bob", 2);
        Check.order(x, 0, "0 0 -4 [5,1,0] []");
        Check.order(x, 1, "0 0 -4 [7,5,1,0,3] []");
        Check.table(x, "[] [] [] [7,5,1,0,3]");
        Check.reads(x, "take coins. take them", 2);
        Check.order(x, 1, "0 0 -4 [5] []");
        x.own(2, 0);
        x.own(6, 1);
        Check.reads(x, "take me, ann. take their box", 2);
        Check.order(x, 1, "0 0 -4 [2] []");
    }

    private static void listMeans() {
        Check.sentence("A LIST: the things of its ITEMS in order, each once, but those behind but.");
        PronounOrders x = Check.world();
        Check.reads(x, "take tom, lamp, tom, lantern, coins, all, me, me", 1);
        Check.order(x, 0, "0 0 -4 [7,1,5,2,6,0] []");
        Check.reads(x, "take tom, lamp, coins, lamp but lamp, lamp, ann", 1);
        Check.order(x, 0, "0 0 -4 [7,5] []");
        Check.reads(x, "take me, lamp but me", 1);
        Check.order(x, 0, "0 0 -4 [1] []");
        Check.table(x, "[1] [] [] [7,5]");
        Check.reads(x, "put lamp, coins but lamp in lamp, coins but coins", 1);
        Check.order(x, 0, "0 1 4 [5] [1]");
        Check.reads(x, "take lamp but coins", 1);
        Check.order(x, 0, "0 0 -4 [1] []");
        // What stands behind but in one list does not count in the next one.
        Check.reads(x, "put tom, lamp but lamp in lamp and take lamp", 2);
        Check.order(x, 0, "0 1 4 [7] [1]");
        Check.order(x, 1, "0 0 -4 [1] []");
        // What was taken away is no longer in the LIST, so it need not be SEEN.
        Check.reads(x, "take tom, coins, ann but ann", 1);
        x.see(4, false);
        Check.reads(x, "again. take them", 2);
        Check.order(x, 1, "0 0 -4 [7,5] []");
    }

    private static void tableOfOne() {
        Check.sentence("a LIST of one thing (not THE PLAYER) becomes what is meant by its KIND");
        PronounOrders x = Check.world();
        Check.table(x, "[] [] [] []");
        Check.reads(x, "take me. look", 2);
        Check.table(x, "[] [] [] []");
        Check.reads(x, "take lamp", 1);
        Check.table(x, "[1] [] [] []");
        Check.reads(x, "take tom", 1);
        Check.table(x, "[1] [7] [] []");
        Check.reads(x, "take ann", 1);
        Check.table(x, "[1] [7] [4] []");
        Check.reads(x, "take coins", 1);
        Check.table(x, "[1] [7] [4] [5]");
        Check.reads(x, "take me. take me but ann. take yourself", 3);
        Check.table(x, "[1] [7] [4] [5]");
        Check.reads(x, "take bob, ann but ann", 1);
        Check.table(x, "[1] [3] [4] [5]");
        Check.reads(x, "take red box, red box", 1);
        Check.table(x, "[2] [3] [4] [5]");
    }

    private static void tableOfSeveral() {
        Check.sentence("one of several becomes what is meant by them (THE PLAYER among these, too)");
        PronounOrders x = Check.world();
        Check.reads(x, "take lamp, red box", 1);
        Check.table(x, "[] [] [] [1,2]");
        Check.reads(x, "take me, bob", 1);
        Check.table(x, "[] [] [] [0,3]");
        Check.reads(x, "take them but me", 1);
        Check.table(x, "[] [3] [] [0,3]");
        Check.reads(x, "take all", 1);
        Check.table(x, "[] [3] [] [1,2,5,6]");
        Check.reads(x, "take them but lamp", 1);
        Check.table(x, "[] [3] [] [2,5,6]");
        Check.reads(x, "take them, them", 1);
        Check.table(x, "[] [3] [] [2,5,6]");
        Check.reads(x, "take coins", 1);
        Check.table(x, "[] [3] [] [5]");
    }

    private static void tableByActor() {
        Check.sentence("by THE ACTOR (as a LIST of it), if it is not THE PLAYER and this is the first COMMAND for it");
        PronounOrders x = Check.world();
        Check.reads(x, "look", 1);
        Check.table(x, "[] [] [] []");
        Check.reads(x, "tom, look", 1);
        Check.table(x, "[] [7] [] []");
        Check.reads(x, "tell ann to look", 1);
        Check.table(x, "[] [7] [4] []");
        // The second COMMAND does not set it anew.
        Check.reads(x, "tom, take bob and look and take lamp", 3);
        Check.table(x, "[1] [3] [4] []");
        Check.reads(x, "tom, look and take him", 2);
        Check.order(x, 1, "7 0 -4 [7] []");
        // In the first one it is not yet set.
        Check.reads(x, "bob, take him", 1);
        Check.order(x, 0, "3 0 -4 [7] []");
        Check.table(x, "[1] [7] [4] []");
        Check.reads(x, "bob, take lamp. tom, look. bob, look", 3);
        Check.table(x, "[1] [3] [4] []");
    }

    private static void tableInOrder() {
        Check.sentence("then by the first LIST, then by the second one");
        PronounOrders x = Check.world();
        Check.reads(x, "bob, put tom in lamp", 1);
        Check.table(x, "[1] [7] [] []");
        Check.reads(x, "put lamp in red box", 1);
        Check.table(x, "[2] [7] [] []");
        Check.reads(x, "tom, put lamp in bob", 1);
        Check.table(x, "[1] [3] [] []");
        Check.reads(x, "put lamp, coins in ann, tom", 1);
        Check.table(x, "[1] [3] [] [4,7]");
        Check.reads(x, "put coins in it. put it in them", 2);
        Check.order(x, 1, "0 1 4 [1] [5]");
        Check.reads(x, "put lamp in it", 1);
        Check.order(x, 0, "0 1 4 [1] [1]");
    }

    private static void tableWhenUnderstood() {
        Check.sentence("When a COMMAND is understood (and behind it stands what may: and with a VERB, . or then, or the end), it is one of the line's ORDERS");
        PronounOrders x = Check.world();
        Check.reads(x, "take lamp", 1);
        String[] behind = {"^xyzzy", "^in", "^to", "^the", "^look", "^again", "^tell", "^it", "^me"};
        for (String token : behind) {
            Check.failsAt(x, "tom, take bob " + token, token.equals("^xyzzy") ? 2 : 3, 0);
            Check.failsAt(x, "look " + token, token.equals("^xyzzy") ? 2 : 3, 0);
        }
        Check.failsAt(x, "look ^and", 3, 0);
        Check.failsAt(x, "look ^and lamp", 3, 0);
        Check.failsAt(x, "put bob in ann ^in", 3, 0);
        Check.failsAt(x, "put bob in ^xyzzy", 2, 0);
        Check.table(x, "[1] [] [] []");
        Check.due("orders of all lines", x.count(4), 1);
        Check.failsAt(x, "take bob and take ^xyzzy", 2, 1);
        Check.failsAt(x, "take ann. ^xyzzy", 2, 1);
        Check.failsAt(x, "take coins then ^xyzzy", 2, 1);
        Check.table(x, "[1] [3] [4] [5]");
        Check.due("orders of all lines", x.count(4), 4);
    }

    private static void again() {
        Check.sentence("again: the latest ORDER (of this line, or of those before) is one more time among the line's, with the same ACTOR, VERB, things");
        PronounOrders x = Check.world();
        Check.reads(x, "bob, put lamp, coins in red box. again", 2);
        Check.order(x, 1, "3 1 4 [1,5] [2]");
        Check.reads(x, "again", 1);
        Check.order(x, 0, "3 1 4 [1,5] [2]");
        Check.reads(x, "", 0);
        Check.failsAt(x, "^xyzzy", 2, 0);
        Check.reads(x, "again. look. again. again", 4);
        Check.order(x, 0, "3 1 4 [1,5] [2]");
        Check.order(x, 2, "0 2 -4 [] []");
        Check.order(x, 3, "0 2 -4 [] []");
        Check.due("orders of all lines", x.count(4), 7);
        Check.reads(x, "again" + ".again".repeat(9), 10);
        Check.reads(x, "tom, look and take ann. again", 3);
        Check.order(x, 2, "7 0 -4 [4] []");
        x.turn(7, 0);
        x.form(0, 0);
        Check.reads(x, "again", 1);
        Check.order(x, 0, "7 0 -4 [4] []");

        Check.sentence("again (behind it . or then, or the end, likewise)");
        Check.reads(x, "again.", 1);
        Check.reads(x, "again then", 1);
        Check.reads(x, "again please", 1);
        int before = x.count(4);
        for (String token : new String[] {"^and look", "^, look", "^again", "^look", "^lamp", "^to", "^tell", "^in"}) {
            Check.failsAt(x, "again " + token, 3, 0);
        }
        Check.failsAt(x, "again ^xyzzy", 2, 0);
        Check.due("none of them was given", x.count(4), before);
    }

    private static void againStays() {
        Check.sentence("again: THE TABLE stays.");
        PronounOrders x = Check.world();
        Check.reads(x, "bob, put lamp in red box", 1);
        Check.table(x, "[2] [3] [] []");
        x.turn(2, 2);
        x.turn(1, 3);
        x.turn(3, 2);
        Check.reads(x, "again. again", 2);
        Check.order(x, 1, "3 1 4 [1] [2]");
        Check.table(x, "[2] [3] [] []");
    }
}
