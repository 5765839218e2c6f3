/** Promises 11 to 16: lines that are understood, their ORDERS, THE TABLE, the counts. */
public final class LinesTest {
    private static final int MIN = Integer.MIN_VALUE, MAX = Integer.MAX_VALUE;

    public static void main(String[] args) {
        tokens();
        stops();
        forms();
        lists();
        names();
        whose();
        actors();
        ands();
        tableIsSet();
        pronouns();
        again();
        faultOfLatest();
        order();
        given();
        tableAnswers();
        count();
        Check.end();
    }

    private static void tokens() {
        PronounOrders x = Check.world();
        Check.reads(x, "", 0);
        Check.reads(x, "     ", 0);
        Check.reads(x, "please", 0);
        Check.reads(x, "  TaKe   THE  LaMp  ", 1);
        Check.order(x, 0, "0 0 -4 [1] []");
        Check.reads(x, "take lamp,coins.look", 2);
        Check.order(x, 0, "0 0 -4 [1,5] []");
        Check.reads(x, "please take please the please red please lamp please , please coins please", 1);
        Check.order(x, 0, "0 0 -4 [1,5] []");
        Check.reads(x, "look please and please look", 2);
        int eight = Check.word(x, "examinee", 1);
        x.form(eight, 1);
        Check.reads(x, "examineesandmore yourselfish", 1);
        Check.order(x, 0, "0 18 -4 [0] []");
        Check.fails(x, "examine lamp", 2, 0, 0);
        Check.fails(x, "lampe", 2, 0, 0);
    }

    private static void stops() {
        PronounOrders x = Check.world();
        Check.reads(x, "..then. then", 0);
        Check.reads(x, "then look", 1);
        Check.reads(x, ". look .. then . look then", 2);
        Check.reads(x, "look.", 1);
        Check.reads(x, "look then take lamp. take coins", 3);
        Check.order(x, 2, "0 0 -4 [5] []");
    }

    private static void forms() {
        PronounOrders x = Check.world();
        Check.reads(x, "look", 1);
        Check.order(x, 0, "0 2 -4 [] []");
        Check.reads(x, "put lamp in red box", 1);
        Check.order(x, 0, "0 1 4 [1] [2]");
        Check.reads(x, "put lamp, coins on red box and blue box", 1);
        Check.order(x, 0, "0 1 5 [1,5] [2,6]");
        Check.reads(x, "use lamp", 1);
        Check.order(x, 0, "0 3 -4 [1] []");
        Check.reads(x, "use lamp into red box", 1);
        Check.order(x, 0, "0 3 4 [1] [2]");
        Check.reads(x, "use lamp and use lamp in red box and use coins", 3);
        Check.order(x, 2, "0 3 -4 [5] []");
    }

    private static void lists() {
        PronounOrders x = Check.world();
        Check.reads(x, "take coins and lamp, and red box, blue box", 1);
        Check.order(x, 0, "0 0 -4 [5,1,2,6] []");
        Check.reads(x, "take lamp, lantern, coins, lamp", 1);
        Check.order(x, 0, "0 0 -4 [1,5] []");
        Check.reads(x, "take all", 1);
        Check.order(x, 0, "0 0 -4 [1,2,5,6] []");
        Check.reads(x, "take coins, all", 1);
        Check.order(x, 0, "0 0 -4 [5,1,2,6] []");
        Check.reads(x, "take all, bob", 1);
        Check.order(x, 0, "0 0 -4 [1,2,5,6,3] []");
        Check.reads(x, "take all but lamp and coins, and bob", 1);
        Check.order(x, 0, "0 0 -4 [2,6] []");
        Check.reads(x, "take lamp, coins but bob", 1);
        Check.order(x, 0, "0 0 -4 [1,5] []");
        Check.reads(x, "take bob, lamp, me but all", 1);
        Check.order(x, 0, "0 0 -4 [3,0] []");
        Check.reads(x, "put all but red box in all but lamp", 1);
        Check.order(x, 0, "0 1 4 [1,5,6] [2,5,6]");
        Check.reads(x, "ann, take all", 1);
        Check.order(x, 0, "4 0 -4 [1,2,5,6] []");
        x.see(2, false);
        x.see(6, false);
        x.turn(1, 2);
        Check.reads(x, "take all", 1);
        Check.order(x, 0, "0 0 -4 [5] []");
    }

    private static void names() {
        PronounOrders x = Check.world();
        Check.reads(x, "take red lamp, a red box, an blue box, the coins", 1);
        Check.order(x, 0, "0 0 -4 [1,2,6,5] []");
        x.see(6, false);
        Check.reads(x, "take box", 1);
        Check.order(x, 0, "0 0 -4 [2] []");
        Check.reads(x, "take red red box box", 1);
        Check.order(x, 0, "0 0 -4 [2] []");
        Check.fails(x, "take box red", 4, 5, 0);
        x.name(12, 2, 0);
        Check.reads(x, "take box red", 1);
        Check.order(x, 0, "0 0 -4 [2] []");
        x.name(14, 0, 0);
        x.see(7, false);
        Check.reads(x, "take tom", 1);
        Check.order(x, 0, "0 0 -4 [0] []");
    }

    private static void whose() {
        PronounOrders x = Check.world();
        x.own(2, 0);
        x.own(6, 3);
        Check.reads(x, "take my box", 1);
        Check.order(x, 0, "0 0 -4 [2] []");
        Check.table(x, "[2] [] [] []");
        Check.reads(x, "take bob and take his box", 2);
        Check.order(x, 1, "0 0 -4 [6] []");
        x.own(6, 4);
        Check.reads(x, "take ann and take her please box and take her", 3);
        Check.order(x, 1, "0 0 -4 [6] []");
        Check.order(x, 2, "0 0 -4 [4] []");
        Check.reads(x, "put her in her blue box", 1);
        Check.order(x, 0, "0 1 4 [4] [6]");
        x.own(5, 6);
        Check.reads(x, "take its coins", 1);
        Check.order(x, 0, "0 0 -4 [5] []");
        Check.reads(x, "take bob, ann and take their box", 2);
        Check.order(x, 1, "0 0 -4 [6] []");
        x.own(2, 3);
        Check.reads(x, "take bob, ann", 1);
        Check.fails(x, "take their box", 5, 11, 0);
        Check.reads(x, "take their red box", 1);
        Check.order(x, 0, "0 0 -4 [2] []");
        x.own(1, 0);
        Check.reads(x, "take me, ann. take their lamp. take bob. bob, take my lamp", 4);
        Check.order(x, 1, "0 0 -4 [1] []");
        Check.order(x, 3, "3 0 -4 [1] []");
    }

    private static void actors() {
        PronounOrders x = Check.world();
        Check.reads(x, "bob, look", 1);
        Check.order(x, 0, "3 2 -4 [] []");
        Check.reads(x, "tell ann to look and take lamp. look", 3);
        Check.order(x, 0, "4 2 -4 [] []");
        Check.order(x, 1, "4 0 -4 [1] []");
        Check.order(x, 2, "0 2 -4 [] []");
        Check.reads(x, "her, take yourself", 1);
        Check.order(x, 0, "4 0 -4 [4] []");
        Check.reads(x, "take yourself, me and myself", 1);
        Check.order(x, 0, "0 0 -4 [0] []");
        Check.reads(x, "tell the bob to take me, yourself", 1);
        Check.order(x, 0, "3 0 -4 [0,3] []");
        x.own(3, 4);
        Check.reads(x, "tell her bob to look then her bob, look", 2);
        Check.order(x, 0, "3 2 -4 [] []");
        x.turn(5, 2);
        Check.reads(x, "coins, look", 1);
        Check.order(x, 0, "5 2 -4 [] []");
    }

    private static void ands() {
        PronounOrders x = Check.world();
        Check.reads(x, "take lamp and coins and take red box and look", 3);
        Check.order(x, 0, "0 0 -4 [1,5] []");
        Check.order(x, 1, "0 0 -4 [2] []");
        Check.reads(x, "take lamp and get it", 2);
        Check.order(x, 1, "0 0 -4 [1] []");
        Check.reads(x, "take all but lamp and look", 2);
        Check.order(x, 0, "0 0 -4 [2,5,6] []");
    }

    private static void tableIsSet() {
        PronounOrders x = Check.world();
        Check.reads(x, "look", 1);
        Check.table(x, "[] [] [] []");
        Check.reads(x, "take me", 1);
        Check.table(x, "[] [] [] []");
        Check.reads(x, "take lamp", 1);
        Check.table(x, "[1] [] [] []");
        Check.reads(x, "put coins in red box", 1);
        Check.table(x, "[2] [] [] [5]");
        Check.reads(x, "put lamp in red box", 1);
        Check.table(x, "[2] [] [] [5]");
        Check.reads(x, "put me, lamp in bob", 1);
        Check.table(x, "[2] [3] [] [0,1]");
        Check.reads(x, "put coins, lamp in red box, blue box", 1);
        Check.table(x, "[2] [3] [] [2,6]");
        Check.reads(x, "tom, look", 1);
        Check.table(x, "[2] [7] [] [2,6]");
        Check.reads(x, "tom, take bob and look", 2);
        Check.table(x, "[2] [3] [] [2,6]");
        Check.reads(x, "tom, take lamp, coins but coins", 1);
        Check.table(x, "[1] [7] [] [2,6]");
        Check.reads(x, "tom, take bob. tom, look", 2);
        Check.table(x, "[1] [7] [] [2,6]");
        // What was understood before the fault has set the table; what was not understood has not.
        Check.fails(x, "ann, take coins and take bob but bob", 4, 29, 1);
        Check.table(x, "[1] [7] [4] [5]");
        Check.fails(x, "take bob lamp", 4, 5, 0);
        Check.fails(x, "take bob in", 3, 9, 0);
        Check.fails(x, "bob, take", 3, 9, 0);
        Check.table(x, "[1] [7] [4] [5]");
    }

    private static void pronouns() {
        PronounOrders x = Check.world();
        Check.reads(x, "take coins, me, lamp. take them. take them but me", 3);
        Check.order(x, 1, "0 0 -4 [5,0,1] []");
        Check.order(x, 2, "0 0 -4 [5,1] []");
        Check.table(x, "[] [] [] [5,1]");
        Check.reads(x, "take lamp and put it in blue box and take it", 3);
        Check.order(x, 1, "0 1 4 [1] [6]");
        Check.order(x, 2, "0 0 -4 [6] []");
        Check.reads(x, "take bob then put him, them in it", 2);
        Check.order(x, 1, "0 1 4 [3,5,1] [6]");
        Check.table(x, "[6] [3] [] [3,5,1]");
        x.turn(6, 1);
        Check.reads(x, "it, take it", 1);
        Check.order(x, 0, "6 0 -4 [6] []");
        Check.table(x, "[6] [6] [] [3,5,1]");
    }

    private static void again() {
        PronounOrders x = Check.world();
        Check.reads(x, "bob, put lamp, coins in red box", 1);
        Check.reads(x, "take ann", 1);
        Check.fails(x, "bob, put lamp, coins in red box. xyzzy", 2, 33, 1);
        Check.table(x, "[2] [3] [4] [1,5]");
        Check.reads(x, "look. again", 2);
        Check.order(x, 1, "0 2 -4 [] []");
        Check.reads(x, "bob, put lamp, coins in red box. take tom. take blue box", 3);
        Check.reads(x, "bob, put lamp, coins in red box", 1);
        Check.reads(x, "take tom. bob, put lamp, coins in red box", 2);
        Check.reads(x, "", 0);
        Check.reads(x, "again then please again please.", 2);
        Check.order(x, 0, "3 1 4 [1,5] [2]");
        Check.order(x, 1, "3 1 4 [1,5] [2]");
        Check.table(x, "[2] [3] [4] [1,5]");
        Check.reads(x, "take tom", 1);
        Check.reads(x, "again", 1);
        Check.table(x, "[2] [7] [4] [1,5]");
        // The table stays: what was set last is not set anew.
        Check.reads(x, "put coins in lamp", 1);
        Check.reads(x, "again", 1);
        Check.table(x, "[1] [7] [4] [5]");
    }

    /** Promise 12. */
    private static void faultOfLatest() {
        PronounOrders x = Check.world();
        Check.due("no line", x.fault(), 0);
        Check.fails(x, "look xyzzy", 2, 5, 0);
        Check.due("the fault", x.fault(), 2);
        Check.due("the fault again", x.fault(), 2);
        Check.reads(x, "look", 1);
        Check.fails(x, "look. take", 3, 10, 1);
        Check.reads(x, "", 0);
    }

    /** Promise 13. */
    private static void order() {
        PronounOrders x = Check.world();
        Check.reads(x, "look. tell bob to get coins, lantern. put lamp into red box, all", 3);
        Check.order(x, 0, "0 2 -4 [] []");
        Check.order(x, 1, "3 0 -4 [5,1] []");
        Check.order(x, 2, "0 1 4 [1] [2,1,5,6]");
        int[][] bad = {{-1, 0}, {3, 0}, {10, 0}, {0, -1}, {0, 5}, {MIN, 0}, {MAX, 0}, {0, MIN}, {0, MAX}};
        for (int[] call : bad) {
            Check.due("order(" + call[0] + ", " + call[1] + ")", x.order(call[0], call[1]), -1);
        }
        Check.fails(x, "look. xyzzy", 2, 6, 1);
        Check.order(x, 0, "0 2 -4 [] []");
        Check.due("none behind it", x.order(1, 0), -1);
        Check.reads(x, "", 0);
        Check.due("none of this line", x.order(0, 0), -1);
    }

    /** Promise 14. */
    private static void given() {
        PronounOrders x = Check.world();
        Check.reads(x, "put lamp, coins in red box", 1);
        Check.due("given(0, 0, 0)", x.given(0, 0, 0), 1);
        Check.due("given(0, 0, 1)", x.given(0, 0, 1), 5);
        Check.due("given(0, 1, 0)", x.given(0, 1, 0), 2);
        int[][] bad = {{0, 0, 2}, {0, 1, 1}, {0, 0, -1}, {0, 2, 0}, {0, -1, 0}, {1, 0, 0}, {-1, 0, 0}, {MIN, 0, 0}, {MAX, 0, 0},
            {0, MIN, 0}, {0, MAX, 0}, {0, 0, MIN}, {0, 0, MAX}, {0, 0, -4}, {10, 0, 0}};
        for (int[] call : bad) {
            Check.due("given(" + call[0] + ", " + call[1] + ", " + call[2] + ")", x.given(call[0], call[1], call[2]), -1);
        }
        Check.reads(x, "take me", 1);
        Check.due("the player is given", x.given(0, 0, 0), 0);
        Check.due("no longer", x.given(0, 0, 1), -1);
        Check.due("no longer", x.given(0, 1, 0), -1);
    }

    /** Promise 15. */
    private static void tableAnswers() {
        PronounOrders x = Check.world();
        Check.reads(x, "take lamp. take bob. take ann. take coins, me", 4);
        Check.due("it", x.table(0, 0), 1);
        Check.due("him", x.table(1, 0), 3);
        Check.due("her", x.table(2, 0), 4);
        Check.due("them", x.table(3, 0), 5);
        Check.due("them, too", x.table(3, 1), 0);
        int[][] none = {{0, 1}, {0, -1}, {3, 2}, {3, -1}, {3, 24}, {0, MIN}, {3, MAX}};
        for (int[] call : none) {
            Check.due("table(" + call[0] + ", " + call[1] + ")", x.table(call[0], call[1]), -4);
        }
        for (int bad : new int[] {-1, 4, -4, MIN, MAX}) {
            Check.due("table(" + bad + ", 0)", x.table(bad, 0), -1);
            Check.due("table(" + bad + ", -1)", x.table(bad, -1), -1);
        }
    }

    /** Promise 16. */
    private static void count() {
        PronounOrders x = Check.world();
        Check.due("things", x.count(0), 8);
        Check.due("words", x.count(1), 18);
        Check.due("tape", x.count(2), 0);
        Check.feed(x, "look. look then");
        Check.due("tape", x.count(2), 15);
        Check.due("line", x.line(), 2);
        Check.due("tape", x.count(2), 0);
        Check.due("orders", x.count(3), 2);
        Check.due("orders of all", x.count(4), 2);
        Check.fails(x, "again. look. look?", 1, 17, 0);
        Check.due("orders of all", x.count(4), 2);
        Check.fails(x, "again. look. look look", 3, 18, 2);
        Check.due("orders of all", x.count(4), 4);
        Check.reads(x, "", 0);
        Check.due("orders of all", x.count(4), 4);
        for (int bad : new int[] {-1, 5, MIN, MAX}) {
            Check.due("count(" + bad + ")", x.count(bad), -1);
        }
    }
}
