/** The boundary cases of the terms' part 1 and of promises 1 to 5, a method for each promise, sentence by sentence. */
public final class ThingEdgesTest {
    private static final int MIN = Integer.MIN_VALUE, MAX = Integer.MAX_VALUE;

    public static void main(String[] args) {
        things();
        kindsAtFirst();
        newObject();
        newObjectHasNoMore();
        thing();
        see();
        seeFromNowOn();
        own();
        ownIsReplaced();
        turn();
        turnAndTable();
        Check.end();
    }

    /** 23 things beside THE PLAYER, all of a KIND; the words take (with things), look (alone), and last, a noun of thing 23. */
    private static PronounOrders crowd(int kind) {
        PronounOrders x = new PronounOrders();
        for (int i = 1; i < 24; i++) {
            x.thing(kind);
        }
        Check.word(x, "take", 1);
        x.form(0, 1);
        Check.word(x, "look", 1);
        Check.word(x, "last", 0);
        x.name(2, 23, 0);
        return x;
    }

    private static void things() {
        Check.sentence("THINGS (24)");
        PronounOrders x = crowd(0);
        Check.due("things", x.count(0), 24);
        Check.reads(x, "take all", 1);
        Check.due("all but the player", x.order(0, 3), 23);
        Check.due("the first of them", x.given(0, 0, 0), 1);
        Check.due("the last of them", x.given(0, 0, 22), 23);
        Check.due("none behind it", x.given(0, 0, 23), -1);
        Check.reads(x, "take last", 1);
        Check.order(x, 0, "0 0 -4 [23] []");

        Check.sentence("SEEN (at first) or not");
        for (int i = 1; i < 24; i++) {
            Check.due("seen at first " + i, x.see(i, true), 1);
        }

        Check.sentence("each may have an OWNER (none at first)");
        Check.fails(x, "take my last", 4, 8, 0);
        Check.due("the player's", x.own(23, 0), 0);
        Check.reads(x, "take my last", 1);
        Check.due("the player has one, too", x.own(0, 23), 0);
        Check.due("noun of the player", x.name(2, 0, 0), 0);
        Check.fails(x, "take last", 5, 5, 0);
        Check.reads(x, "take its last", 1);
        Check.order(x, 0, "0 0 -4 [0] []");

        Check.sentence("Thing 0 is THE PLAYER, of KIND 1, there from the beginning, and always SEEN.");
        Check.due("not to be hidden", x.see(0, false), -1);
        Check.due("not to be turned", x.turn(0, 0), -1);
        Check.reads(x, "take me", 1);
        Check.order(x, 0, "0 0 -4 [0] []");
        Check.reads(x, "take all, me", 1);
        Check.reads(x, "take them. again", 2);
        Check.due("it is among them, the last", x.table(3, 23), 0);
    }

    private static void kindsAtFirst() {
        Check.sentence("Those of KIND 1, 2 are PERSONS.");
        for (int kind = 0; kind < 4; kind++) {
            boolean isPerson = kind == 1 || kind == 2;
            PronounOrders x = crowd(kind);
            Check.due("last, look", Check.line(x, "last, look"), isPerson ? 1 : -10);
            Check.due("its fault", x.fault(), isPerson ? 0 : 8);
            Check.due("take all", Check.line(x, "take all"), isPerson ? -15 : 1);
            Check.due("its fault", x.fault(), isPerson ? 4 : 0);
            Check.reads(x, "take last", 1);
            Check.due("meant by its kind", x.table(kind, 0), 23);
        }
    }

    private static void newObject() {
        Check.sentence("1: THE PLAYER alone");
        PronounOrders x = new PronounOrders();
        Check.due("things", x.count(0), 1);
        Check.due("no thing 1 to see", x.see(1, true), -1);
        Check.due("no thing 1 to own", x.own(1, 0), -1);
        Check.due("no thing 1 to be owned by", x.own(0, 1), -1);
        Check.due("the player has no owner to lose", x.own(0, -4), 0);
        Check.due("no thing 1 to turn", x.turn(1, 0), -1);
        Check.due("the next one", x.thing(0), 1);

        Check.sentence("1: no words");
        Check.due("words", x.count(1), 0);
        Check.due("no word 0 to name", x.name(0, 1, 0), -1);
        Check.due("no word 0 to form", x.form(0, 0), -1);
        Check.due("no words to be the same", x.same(1, 0), -1);
        Check.fails(x, "look", 2, 0, 0);
        Check.due("the next one", Check.word(x, "look", 1), 0);

        Check.sentence("1: an empty tape");
        x = new PronounOrders();
        Check.due("bytes", x.count(2), 0);
        Check.due("no word", x.word(0), -1);
        Check.due("a line of nothing", x.line(), 0);
        Check.due("the first byte", x.feed(1, 32), 1);
    }

    private static void newObjectHasNoMore() {
        Check.sentence("1: A new object has no line, no ORDERS, nothing in THE TABLE");
        PronounOrders x = new PronounOrders();
        Check.due("no fault", x.fault(), 0);
        Check.due("no orders", x.count(3), 0);
        Check.due("no orders of all lines", x.count(4), 0);
        Check.table(x, "[] [] [] []");
        for (int what = -1; what < 6; what++) {
            Check.due("no order's " + what, x.order(0, what), -1);
        }
        Check.due("nothing given", x.given(0, 0, 0), -1);
        Check.due("nothing given behind", x.given(0, 1, 0), -1);
        Check.fails(x, "again", 6, 0, 0);

        Check.sentence("1: it shares nothing with another one");
        PronounOrders full = Check.world();
        Check.reads(full, "bob, take ann, coins. take lamp", 2);
        Check.feed(full, "look");
        x = new PronounOrders();
        int[] counts = {1, 0, 0, 0, 0};
        for (int what = 0; what < 5; what++) {
            Check.due("count " + what, x.count(what), counts[what]);
        }
        Check.table(x, "[] [] [] []");
        Check.fails(x, "again", 6, 0, 0);
        Check.due("the other one's line", full.line(), 1);
    }

    private static void thing() {
        Check.sentence("2: A thing: its number.");
        PronounOrders x = new PronounOrders();
        for (int i = 1; i < 24; i++) {
            Check.due("thing " + i, x.thing(i % 4), i);
            Check.due("things", x.count(0), i + 1);
        }

        Check.sentence("2: FULL.");
        for (int kind = 0; kind < 4; kind++) {
            Check.due("a 25th thing", x.thing(kind), -3);
        }
        Check.due("things", x.count(0), 24);
        Check.due("no thing 24", x.see(24, true), -1);
        for (int i = 1; i < 24; i++) {
            Check.due("kind of " + i, x.turn(i, i % 4), i % 4);
        }

        Check.sentence("2: BAD: kind is not 0 .. 3.");
        int[] bad = {-1, 4, -4, 5, MIN, MAX, MIN + 1, 256, 1 << 31 | 1};
        for (int kind : bad) {
            Check.due("thing(" + kind + ") of a full one: the first one here", x.thing(kind), -1);
        }
        x = new PronounOrders();
        for (int kind : bad) {
            Check.due("thing(" + kind + ")", x.thing(kind), -1);
        }
        Check.due("things", x.count(0), 1);
        Check.due("kind 3", x.thing(3), 1);
        Check.due("kind 0", x.thing(0), 2);
        Check.due("it was 3", x.turn(1, 0), 3);
        Check.due("it was 0", x.turn(2, 0), 0);
    }

    private static void see() {
        Check.sentence("3: 1 if it was, else 0.");
        PronounOrders x = crowd(0);
        for (int thing = 1; thing < 24; thing += 11) {
            Check.due("was seen", x.see(thing, true), 1);
            Check.due("was seen", x.see(thing, false), 1);
            Check.due("was not", x.see(thing, false), 0);
            Check.due("was not", x.see(thing, true), 0);
            Check.due("was seen", x.see(thing, true), 1);
        }

        Check.sentence("3: BAD: no such thing, or THE PLAYER.");
        // 32 more would be the same bit of an int.
        int[] bad = {0, -1, -4, 24, 25, 32, 33, 55, -31, -32, 64, 256, MIN, MAX};
        for (int thing : bad) {
            Check.due("see(" + thing + ", false)", x.see(thing, false), -1);
            Check.due("see(" + thing + ", true)", x.see(thing, true), -1);
        }
        for (int thing = 1; thing < 24; thing++) {
            Check.due("still seen: " + thing, x.see(thing, true), 1);
        }
        PronounOrders few = Check.world();
        Check.due("the last one there is", few.see(7, false), 1);
        Check.due("none yet", few.see(8, false), -1);
        Check.due("it comes", few.thing(0), 8);
        Check.due("and was seen", few.see(8, true), 1);
    }

    private static void seeFromNowOn() {
        Check.sentence("3: A thing is SEEN, or not, from now on");
        PronounOrders x = crowd(0);
        Check.reads(x, "take last", 1);
        x.see(23, false);
        Check.due("the line before stays", x.given(0, 0, 0), 23);
        Check.table(x, "[23] [] [] []");
        Check.fails(x, "take last", 4, 5, 0);
        Check.fails(x, "take it", 7, 5, 0);
        Check.fails(x, "again", 7, 0, 0);
        Check.reads(x, "take all", 1);
        Check.due("all but one", x.order(0, 3), 22);
        x.see(23, true);
        Check.reads(x, "take last. take it. again. take all", 4);
        Check.due("all", x.order(3, 3), 23);
    }

    private static void own() {
        Check.sentence("4: A thing's OWNER (NONE: none): 0.");
        PronounOrders x = crowd(1);
        Check.due("own(23, 22)", x.own(23, 22), 0);
        Check.due("own(1, 23)", x.own(1, 23), 0);
        Check.due("own(23, 1): one the other's", x.own(23, 1), 0);
        Check.due("own(23, 0)", x.own(23, 0), 0);
        Check.due("own(0, 23)", x.own(0, 23), 0);
        Check.reads(x, "take my last", 1);
        Check.due("own(23, NONE)", x.own(23, PronounOrders.NONE), 0);
        Check.due("own(23, NONE), none before", x.own(23, PronounOrders.NONE), 0);
        Check.fails(x, "take my last", 4, 8, 0);

        Check.sentence("4: BAD: no such things");
        x.own(23, 0);
        int[] none = {-1, -2, -3, -5, 24, 32, 33, 55, -32, MIN, MAX};
        for (int thing : none) {
            Check.due("own(" + thing + ", 1)", x.own(thing, 1), -1);
            Check.due("own(" + thing + ", NONE)", x.own(thing, -4), -1);
            Check.due("own(23, " + thing + ")", x.own(23, thing), -1);
            Check.due("own(" + thing + ", " + thing + ")", x.own(thing, thing), -1);
        }
        Check.due("NONE owns nothing", x.own(-4, 1), -1);
        Check.due("NONE, NONE", x.own(-4, -4), -1);

        Check.sentence("4: BAD: or both are one.");
        for (int thing = 0; thing < 24; thing++) {
            Check.due("own(" + thing + ", " + thing + ")", x.own(thing, thing), -1);
        }
        Check.reads(x, "take my last", 1);
        Check.order(x, 0, "0 0 -4 [23] []");
    }

    private static void ownIsReplaced() {
        Check.sentence("4: A thing's OWNER");
        PronounOrders x = Check.world();
        x.own(1, 3);
        x.own(1, 4);
        Check.reads(x, "take bob. take ann", 2);
        Check.fails(x, "take his lamp", 4, 9, 0);
        Check.reads(x, "take her lamp", 1);
        Check.due("one who is not seen", x.see(7, false), 1);
        Check.due("may own", x.own(1, 7), 0);
        Check.fails(x, "take her lamp", 4, 9, 0);
        Check.due("what is not seen", x.see(1, false), 1);
        Check.due("may be owned", x.own(1, 0), 0);
        Check.fails(x, "take my lamp", 4, 8, 0);
        x.see(1, true);
        Check.reads(x, "take my lamp", 1);
    }

    private static void turn() {
        Check.sentence("5: A thing's KIND becomes another one: what it was.");
        PronounOrders x = crowd(0);
        for (int kind = 0; kind < 8; kind++) {
            Check.due("turn(23, " + kind % 4 + ")", x.turn(23, kind % 4), Math.max(0, kind - 1) % 4);
        }
        Check.due("others stay", x.turn(22, 0), 0);

        Check.sentence("5: BAD: no such thing, or THE PLAYER; kind.");
        for (int thing : new int[] {0, -1, -4, 24, 32, 33, 55, -32, MIN, MAX}) {
            for (int kind = 0; kind < 4; kind++) {
                Check.due("turn(" + thing + ", " + kind + ")", x.turn(thing, kind), -1);
            }
        }
        for (int kind : new int[] {-1, 4, -4, 256, MIN, MAX}) {
            Check.due("turn(23, " + kind + ")", x.turn(23, kind), -1);
            Check.due("turn(0, " + kind + ")", x.turn(0, kind), -1);
            Check.due("turn(24, " + kind + ")", x.turn(24, kind), -1);
        }
        Check.due("a refused one stays", x.turn(23, 0), 3);
        for (int thing = 1; thing < 24; thing++) {
            Check.due("others stay", x.turn(thing, 0), 0);
        }
    }

    private static void turnAndTable() {
        Check.sentence("5: (THE TABLE stays)");
        PronounOrders x = Check.world();
        Check.reads(x, "take lamp. take bob. take ann. take coins, lamp", 4);
        int[] kinds = {2, 3, 0, 1};
        int[] things = {1, 3, 4, 5};
        for (int i = 0; i < 4; i++) {
            x.turn(things[i], kinds[i]);
        }
        Check.table(x, "[1] [3] [4] [5,1]");
        Check.reads(x, "take it, him, her, them", 1);
        Check.order(x, 0, "0 0 -4 [1,3,4,5] []");
        // Only what is named from now on goes by the new KIND.
        Check.reads(x, "take it. take bob. take ann. take coins", 4);
        Check.table(x, "[4] [5] [1] [3]");
    }
}
