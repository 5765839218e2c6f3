/** Promises 1 to 5. */
public final class ThingsTest {
    private static final int MIN = Integer.MIN_VALUE, MAX = Integer.MAX_VALUE;

    public static void main(String[] args) {
        newObject();
        thing();
        see();
        own();
        turn();
        Check.end();
    }

    /** Promise 1. */
    private static void newObject() {
        PronounOrders x = new PronounOrders();
        Check.due("things at first", x.count(0), 1);
        Check.due("words at first", x.count(1), 0);
        Check.due("tape at first", x.count(2), 0);
        Check.due("orders at first", x.count(3), 0);
        Check.due("orders of all lines at first", x.count(4), 0);
        Check.due("fault at first", x.fault(), 0);
        Check.due("order at first", x.order(0, 0), -1);
        Check.due("given at first", x.given(0, 0, 0), -1);
        Check.table(x, "[] [] [] []");
        Check.due("an empty line", x.line(), 0);
        PronounOrders other = new PronounOrders();
        x.thing(0);
        Check.due("another object's things", other.count(0), 1);
    }

    /** Promise 2. */
    private static void thing() {
        PronounOrders x = new PronounOrders();
        for (int bad : new int[] {-1, 4, MIN, MAX}) {
            Check.due("thing(" + bad + ")", x.thing(bad), -1);
        }
        for (int i = 1; i < 24; i++) {
            Check.due("thing " + i, x.thing(i % 4), i);
        }
        Check.due("thing 24", x.thing(0), -3);
        Check.due("thing 24 of no kind", x.thing(4), -1);
        Check.due("things", x.count(0), 24);
        for (int i = 1; i < 24; i++) {
            Check.due("kind of thing " + i, x.turn(i, 0), i % 4);
            Check.due("seen at first " + i, x.see(i, true), 1);
        }
    }

    /** Promise 3. */
    private static void see() {
        PronounOrders x = Check.world();
        Check.due("see 1 no", x.see(1, false), 1);
        Check.due("see 1 no again", x.see(1, false), 0);
        Check.fails(x, "take lamp", 4, 5, 0);
        Check.due("see 1 yes", x.see(1, true), 0);
        Check.due("see 1 yes again", x.see(1, true), 1);
        Check.reads(x, "take lamp", 1);
        for (int bad : new int[] {0, -1, -4, 8, 24, MIN, MAX}) {
            Check.due("see(" + bad + ")", x.see(bad, false), -1);
        }
        Check.reads(x, "take me", 1);
    }

    /** Promise 4. */
    private static void own() {
        PronounOrders x = Check.world();
        Check.due("own(1, 0)", x.own(1, 0), 0);
        Check.reads(x, "take my lamp", 1);
        Check.due("own(1, NONE)", x.own(1, -4), 0);
        Check.due("own(1, NONE) again", x.own(1, -4), 0);
        Check.fails(x, "take my lamp", 4, 8, 0);
        Check.due("own(1, 3)", x.own(1, 3), 0);
        Check.due("own(1, 4)", x.own(1, 4), 0);
        Check.reads(x, "take bob. take ann", 2);
        Check.fails(x, "take his lamp", 4, 9, 0);
        Check.reads(x, "take her lamp", 1);
        Check.due("own(0, 4): the player too", x.own(0, 4), 0);
        Check.due("own(4, 0): both ways", x.own(4, 0), 0);
        int[][] bad = {{1, 1}, {0, 0}, {-4, -4}, {-4, 1}, {-1, 1}, {8, 1}, {1, 8}, {1, -1}, {1, -2}, {1, -3},
            {1, -5}, {8, 8}, {8, -4}, {MIN, 0}, {MAX, 0}, {0, MIN}, {0, MAX}};
        for (int[] pair : bad) {
            Check.due("own(" + pair[0] + ", " + pair[1] + ")", x.own(pair[0], pair[1]), -1);
        }
    }

    /** Promise 5. */
    private static void turn() {
        PronounOrders x = Check.world();
        Check.reads(x, "take bob", 1);
        Check.due("turn bob to her", x.turn(3, 2), 1);
        Check.table(x, "[] [3] [] []");
        Check.reads(x, "take bob", 1);
        Check.table(x, "[] [3] [3] []");
        Check.due("turn bob to it", x.turn(3, 0), 2);
        Check.fails(x, "bob, look", 8, 0, 0);
        Check.fails(x, "him, look", 8, 0, 0);
        Check.due("turn bob to what he is", x.turn(3, 0), 0);
        Check.due("turn bob to them", x.turn(3, 3), 0);
        Check.due("turn lamp to him", x.turn(1, 1), 0);
        Check.reads(x, "lamp, look", 1);
        int[][] bad = {{0, 1}, {0, 0}, {-1, 0}, {8, 0}, {1, -1}, {1, 4}, {MIN, 0}, {MAX, 0}, {1, MIN}, {1, MAX}};
        for (int[] pair : bad) {
            Check.due("turn(" + pair[0] + ", " + pair[1] + ")", x.turn(pair[0], pair[1]), -1);
        }
        Check.due("lamp's kind stays", x.turn(1, 0), 1);
    }
}
