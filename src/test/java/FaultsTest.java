/** THE FAULTS of promise 11: which one is met first, at which place, and which ORDERS stay. */
public final class FaultsTest {
    public static void main(String[] args) {
        strangeBytes();
        strangeWords();
        misplaced();
        misplacedItems();
        misplacedInLists();
        misplacedInOrders();
        nothingMeant();
        severalMeant();
        notKnown();
        notSeen();
        noActor();
        tooMany();
        Check.end();
    }

    private static void strangeBytes() {
        PronounOrders x = Check.world();
        Check.fails(x, "look?", 1, 4, 0);
        Check.fails(x, "look. xyzzy and the ! ?", 1, 20, 0);
        Check.fails(x, "?", 1, 0, 0);
        String strange = "\0\t\n\r!\"'-/0:;?@[`{\u007f\u0080\u00a0\u00e9\u00ff";
        for (int i = 0; i < strange.length(); i++) {
            Check.fails(x, "look " + strange.charAt(i), 1, 5, 0);
            Check.fails(x, "lo" + strange.charAt(i) + "ok", 1, 2, 0);
        }
        Check.fails(x, "please?", 1, 6, 0);
        Check.table(x, "[] [] [] []");
    }

    private static void strangeWords() {
        PronounOrders x = Check.world();
        Check.fails(x, "xyzzy", 2, 0, 0);
        Check.fails(x, "  Xyzzy", 2, 2, 0);
        Check.fails(x, "look xyzzy", 2, 5, 0);
        Check.fails(x, "look. look then xyzzy", 2, 16, 2);
        Check.fails(x, "take xyzzy", 2, 5, 0);
        Check.fails(x, "take the xyzzy", 2, 9, 0);
        Check.fails(x, "take my xyzzy", 2, 8, 0);
        Check.fails(x, "take lamp xyzzy", 2, 10, 0);
        Check.fails(x, "take lamp and xyzzy", 2, 14, 0);
        Check.fails(x, "take lamp, xyzzy", 2, 11, 0);
        Check.fails(x, "take lamp but xyzzy", 2, 14, 0);
        Check.fails(x, "put lamp xyzzy", 2, 9, 0);
        Check.fails(x, "put lamp in xyzzy", 2, 12, 0);
        Check.fails(x, "tell xyzzy", 2, 5, 0);
        Check.fails(x, "tell bob xyzzy", 2, 9, 0);
        Check.fails(x, "tell bob to xyzzy", 2, 12, 0);
        Check.fails(x, "bob, xyzzy", 2, 5, 0);
        Check.fails(x, "bob xyzzy", 2, 4, 0);
        Check.reads(x, "take ann", 1);
        Check.fails(x, "take her xyzzy", 2, 9, 0);
        Check.fails(x, "again xyzzy", 2, 6, 0);
        Check.fails(x, "take box xyzzy", 5, 5, 0);
        Check.fails(x, "look and xyzzy", 3, 5, 0);
    }

    private static void misplaced() {
        PronounOrders x = Check.world();
        String[] first = {"and", "to", "but", ",", "in"};
        for (String token : first) {
            Check.fails(x, token + " look", 3, 0, 0);
            Check.fails(x, "please " + token, 3, 7, 0);
        }
        String[] behindLook = {"and", "to", "but", ",", "in", "lamp", "it", "all", "the", "my", "again", "tell", "look", "me"};
        for (String token : behindLook) {
            Check.fails(x, "look " + token, 3, 5, 0);
        }
    }

    private static void misplacedItems() {
        String[] noItem = {"", "and look", "to", "but", ",", "in", "again", "tell", "look", ".", "then"};
        for (String token : noItem) {
            PronounOrders x = Check.world();
            Check.fails(x, "take " + token, 3, 5, 0);
            Check.fails(x, "take lamp, " + token, 3, 11, 0);
            Check.fails(x, "take lamp but " + token, 3, 14, 0);
            Check.fails(x, "put lamp in " + token, 3, 12, 0);
            Check.fails(x, "tell " + token, 3, 5, 0);
            Check.fails(x, "take the " + token, 3, 9, 0);
            Check.fails(x, "take my " + token, 3, 8, 0);
        }
        PronounOrders x = Check.world();
        String[] noName = {"the", "a", "my", "his", "her", "it", "all", "me", "yourself"};
        for (String token : noName) {
            Check.fails(x, "take the " + token, 3, 9, 0);
            Check.fails(x, "take my " + token + " lamp", 3, 8, 0);
        }
    }

    private static void misplacedInLists() {
        PronounOrders x = Check.world();
        Check.fails(x, "take lamp and ", 3, 14, 0);
        Check.fails(x, "take lamp, and", 3, 14, 0);
        Check.fails(x, "take lamp and, coins", 3, 13, 0);
        Check.fails(x, "take lamp, look", 3, 11, 0);
        Check.fails(x, "take lamp, and look", 3, 11, 0);
        Check.fails(x, "take lamp and and coins", 3, 14, 0);
        Check.fails(x, "take lamp, , coins", 3, 11, 0);
        Check.fails(x, "take lamp in red box", 3, 10, 0);
        Check.fails(x, "take lamp but coins but coins", 3, 20, 0);
        Check.fails(x, "take all lamp", 3, 9, 0);
        Check.fails(x, "take me lamp", 3, 8, 0);
        Check.fails(x, "put lamp", 3, 8, 0);
        Check.fails(x, "put lamp.", 3, 8, 0);
        Check.fails(x, "put lamp and look", 3, 9, 0);
        Check.fails(x, "put lamp in red box in", 3, 20, 0);
        Check.fails(x, "put lamp in in", 3, 12, 0);
        Check.fails(x, "use lamp in", 3, 11, 0);
        Check.fails(x, "use", 3, 3, 0);
    }

    private static void misplacedInOrders() {
        PronounOrders x = Check.world();
        Check.fails(x, "bob", 3, 3, 0);
        Check.fails(x, "bob look", 3, 4, 0);
        Check.fails(x, "bob to look", 3, 4, 0);
        Check.fails(x, "bob and ann, look", 3, 4, 0);
        Check.fails(x, "bob, ", 3, 5, 0);
        Check.fails(x, "bob, again", 3, 5, 0);
        Check.fails(x, "bob, ann, look", 3, 5, 0);
        Check.fails(x, "tell bob, look", 3, 8, 0);
        Check.fails(x, "tell bob to", 3, 11, 0);
        Check.fails(x, "tell bob to again", 3, 12, 0);
        Check.fails(x, "tell bob to tell ann to look", 3, 12, 0);
        Check.fails(x, "look and", 3, 5, 0);
        Check.fails(x, "look and look and", 3, 14, 1);
        Check.fails(x, "look. look and look and again", 3, 20, 2);
        Check.fails(x, "look. again and look", 3, 12, 1);
        Check.fails(x, "again again", 3, 6, 0);
        Check.fails(x, "again, look", 3, 5, 0);
        Check.fails(x, "take please  ", 3, 13, 0);
    }

    private static void nothingMeant() {
        PronounOrders x = Check.world();
        Check.fails(x, "take red", 4, 5, 0);
        Check.fails(x, "take the red coins", 4, 9, 0);
        Check.fails(x, "take my lamp", 4, 8, 0);
        Check.fails(x, "take lamp, a blue lamp in", 4, 13, 0);
        Check.fails(x, "bob ann, look", 4, 0, 0);
        Check.fails(x, "the bob ann, look", 4, 4, 0);
        Check.fails(x, "take lamp but lamp", 4, 10, 0);
        Check.fails(x, "take lamp but lamp xyzzy", 4, 10, 0);
        Check.fails(x, "take lamp but lamp but", 4, 10, 0);
        Check.fails(x, "take lamp but lamp, xyzzy", 2, 20, 0);
        Check.fails(x, "take lamp but coins, lamp and look", 4, 10, 0);
        Check.fails(x, "put lamp in all but all", 4, 16, 0);
        Check.fails(x, "put lamp but all", 4, 9, 0);
        x.see(5, false);
        x.see(1, false);
        Check.fails(x, "take lamp", 4, 5, 0);
        x.see(2, false);
        Check.reads(x, "take all", 1);
        x.see(6, false);
        Check.fails(x, "take all", 4, 5, 0);
        Check.fails(x, "look. take bob, all xyzzy", 4, 16, 1);
        Check.fails(x, "take bob but all", 4, 13, 0);
        Check.fails(x, "all, look", 4, 0, 0);
        Check.fails(x, "tell lamp to look", 4, 5, 0);
    }

    private static void severalMeant() {
        PronounOrders x = Check.world();
        Check.fails(x, "take box", 5, 5, 0);
        Check.fails(x, "take the box", 5, 9, 0);
        Check.fails(x, "look. take lamp, please a box look", 5, 26, 1);
        Check.fails(x, "box, look", 5, 0, 0);
        Check.fails(x, "the box, look", 5, 4, 0);
        x.own(2, 0);
        x.own(6, 0);
        Check.fails(x, "take my box", 5, 8, 0);
        Check.reads(x, "take my red box", 1);
        x.see(2, false);
        Check.reads(x, "take box", 1);
        Check.order(x, 0, "0 0 -4 [6] []");
    }

    private static void notKnown() {
        PronounOrders x = Check.world();
        String[] pronouns = {"it", "him", "her", "them", "his", "its", "their"};
        for (String pronoun : pronouns) {
            Check.fails(x, "take " + pronoun, 6, 5, 0);
            Check.fails(x, "take " + pronoun + " xyzzy", 6, 5, 0);
            Check.fails(x, "take " + pronoun + " box", 6, 5, 0);
            Check.fails(x, "take lamp, " + pronoun, 6, 11, 0);
            Check.fails(x, pronoun + ", look", 6, 0, 0);
            Check.fails(x, "take the " + pronoun, 3, 9, 0);
        }
        Check.fails(x, "again", 6, 0, 0);
        Check.fails(x, ". please again xyzzy", 6, 9, 0);
        Check.fails(x, "ann, take her", 6, 10, 0);
        Check.reads(x, "ann, look and take her", 2);
        Check.reads(x, "again", 1);
    }

    private static void notSeen() {
        PronounOrders x = Check.world();
        x.own(6, 3);
        Check.reads(x, "take lamp, coins. take bob. take lamp", 3);
        x.see(1, false);
        Check.fails(x, "take it", 7, 5, 0);
        Check.fails(x, "take it xyzzy", 7, 5, 0);
        Check.fails(x, "take its xyzzy", 7, 5, 0);
        Check.fails(x, "take them", 7, 5, 0);
        Check.fails(x, "them, look", 7, 0, 0);
        Check.fails(x, "it, look", 7, 0, 0);
        Check.fails(x, "again xyzzy", 7, 0, 0);
        x.see(3, false);
        Check.fails(x, "take his blue box", 7, 5, 0);
        x.see(3, true);
        Check.reads(x, "take his blue box", 1);
        Check.reads(x, "bob, look", 1);
        x.see(3, false);
        Check.fails(x, "again", 7, 0, 0);
        x.see(3, true);
        Check.reads(x, "again", 1);
        Check.reads(x, "put coins in red box", 1);
        x.see(2, false);
        Check.fails(x, "again", 7, 0, 0);
        x.see(2, true);
        x.see(5, false);
        Check.fails(x, "again", 7, 0, 0);
        Check.fails(x, "look. again. take them", 7, 18, 2);
        x.see(5, true);
        Check.reads(x, "again. take them", 2);
    }

    private static void noActor() {
        PronounOrders x = Check.world();
        Check.fails(x, "lamp, look", 8, 0, 0);
        Check.fails(x, "the lamp xyzzy", 8, 0, 0);
        Check.fails(x, "tell please the lamp to look", 8, 12, 0);
        Check.fails(x, "coins, look", 8, 0, 0);
        Check.fails(x, "me, look", 8, 0, 0);
        Check.fails(x, "myself", 8, 0, 0);
        Check.fails(x, "yourself, look", 8, 0, 0);
        Check.fails(x, "bob, look. tell yourself to look", 8, 16, 1);
        Check.fails(x, "tell all to look", 8, 5, 0);
        x.own(1, 0);
        Check.fails(x, "look. my lamp, look", 8, 6, 1);
        Check.reads(x, "take bob, ann", 1);
        Check.fails(x, "them, look", 8, 0, 0);
        Check.reads(x, "take coins", 1);
        Check.fails(x, "them, look", 8, 0, 0);
        x.turn(5, 1);
        Check.reads(x, "them, look", 1);
        x.name(9, 0, 0);
        x.see(3, false);
        Check.fails(x, "bob, look", 8, 0, 0);
    }

    private static void tooMany() {
        PronounOrders x = Check.world();
        String ten = "look.look.look.look.look.look.look.look.look.look.";
        Check.reads(x, ten, 10);
        Check.reads(x, ten + " then please", 10);
        Check.fails(x, ten + "look", 9, 50, 10);
        Check.fails(x, ten + "take xyzzy", 9, 50, 10);
        Check.fails(x, ten + "again xyzzy", 9, 50, 10);
        Check.fails(x, ten + "bob, look", 9, 55, 10);
        Check.fails(x, ten + "lamp, look", 8, 50, 10);
        Check.fails(x, ten + "bob look", 3, 54, 10);
        Check.fails(x, ten + "tell bob to", 3, 61, 10);
        Check.fails(x, ten + "xyzzy", 2, 50, 10);
        Check.fails(x, ten + "in", 3, 50, 10);
        String nine = ten.substring(5);
        Check.reads(x, nine + "again", 10);
        Check.fails(x, nine + "bob, look and take lamp", 9, 59, 10);
        Check.fails(x, nine + "bob, look and lamp", 3, 55, 9);
        Check.fails(x, nine + "take lamp and look", 9, 59, 10);
        Check.due("orders of all lines", x.count(4), 10 * 14 + 9);
    }
}
