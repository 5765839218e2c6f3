import java.util.ArrayList;
import java.util.List;

/**
 * A call that is answered BAD, NO or FULL, or that only asks, changes nothing (but for the TAPE that word
 * empties): two objects go the same way, one of them with such calls in between, and answer alike then.
 */
public final class RefusedCallsTest {
    private static final int MIN = Integer.MIN_VALUE, MAX = Integer.MAX_VALUE;
    private static final int[] WRONG = {MIN, -33, -5, -4, -1, 24, 25, 32, 33, 60, 64, 200, 256, MAX};

    public static void main(String[] args) {
        for (int group = 0; group < 6; group++) {
            twins(group, false);
            twins(group, true);
        }
        Check.end();
    }

    private static void twins(int group, boolean isFull) {
        Check.sentence("refused calls, group " + group + (isFull ? " of a full object" : ""));
        PronounOrders plain = prepared(isFull);
        PronounOrders tried = prepared(isFull);
        switch (group) {
            case 0: refusedThings(tried, isFull); break;
            case 1: refusedNames(tried); break;
            case 2: refusedSames(tried); break;
            case 3: refusedWords(tried, isFull); break;
            case 4: questions(tried); break;
            default: wrongQuestions(tried);
        }
        feedSome(plain);
        feedSome(tried);
        if (group != 3) {
            refusedFeeds(tried);
        }
        List<Integer> due = probes(plain);
        List<Integer> got = probes(tried);
        Check.due("how many probes", got.size(), due.size());
        for (int i = 0; i < due.size(); i++) {
            Check.due("probe " + i, got.get(i), due.get(i));
        }
    }

    private static PronounOrders prepared(boolean isFull) {
        PronounOrders x = Check.world();
        x.own(1, 3);
        x.own(6, 0);
        x.see(7, false);
        for (int i = x.count(0); isFull && i < 24; i++) {
            x.thing(i % 4);
        }
        for (int i = x.count(1); isFull && i < 60; i++) {
            Check.word(x, "w" + (char) ('a' + i / 26) + (char) ('a' + i % 26), i % 4);
        }
        Check.failsAt(x, "bob, put lamp, coins in red box. take ann. take ^box", 5, 2);
        return x;
    }

    private static void feedSome(PronounOrders x) {
        Check.feed(x, "take it, her. again. take tom");
    }

    private static void refusedFeeds(PronounOrders x) {
        for (int n : new int[] {MIN, -1, 0, 9, MAX}) {
            Check.due("feed(" + n + ")", x.feed(n, -1), -1);
        }
    }

    private static void refusedThings(PronounOrders x, boolean isFull) {
        for (int kind : new int[] {MIN, -1, 4, MAX}) {
            Check.due("thing(" + kind + ")", x.thing(kind), -1);
            Check.due("turn(1, " + kind + ")", x.turn(1, kind), -1);
        }
        if (isFull) {
            Check.due("thing(0)", x.thing(0), -3);
        }
        for (int thing : WRONG) {
            Check.due("see(" + thing + ")", x.see(thing, false), -1);
            Check.due("turn(" + thing + ")", x.turn(thing, 0), -1);
            Check.due("own(" + thing + ", 1)", x.own(thing, 1), -1);
            Check.due("own(1, " + thing + ")", thing == -4 ? -1 : x.own(1, thing), -1);
        }
        Check.due("see(0)", x.see(0, false), -1);
        Check.due("turn(0)", x.turn(0, 0), -1);
        Check.due("own(1, 1)", x.own(1, 1), -1);
    }

    private static void refusedNames(PronounOrders x) {
        for (int wrong : WRONG) {
            boolean isWord = wrong >= 0 && wrong < x.count(1);
            Check.due("name(" + wrong + ", 1, 1)", isWord && wrong % 4 == 0 ? -1 : x.name(wrong, 1, 1), -1);
            Check.due("name(7, " + wrong + ", 1)", x.name(7, wrong, 1), -1);
            Check.due("name(7, 2, " + wrong + ")", x.name(7, 2, wrong), -1);
            Check.due("form(2, " + wrong + ")", x.form(2, wrong), -1);
        }
        Check.due("a verb is no name", x.name(2, 1, 0), -1);
        Check.due("lantern is the same", x.name(16, 2, 0), -1);
        Check.due("lamp is that already", x.name(7, 1, 0), -2);
        Check.due("a name has no form", x.form(7, 3), -1);
        Check.due("get is the same", x.form(15, 3), -1);
        Check.due("no such word", x.form(60, 3), -1);
    }

    private static void refusedSames(PronounOrders x) {
        for (int wrong : new int[] {MIN, -4, -1, 60, 64, MAX}) {
            Check.due("same(" + wrong + ", 0)", x.same(wrong, 0), -1);
            Check.due("same(2, " + wrong + ")", x.same(2, wrong), -1);
        }
        int[][] bad = {{2, 2}, {0, 2}, {2, 3}, {5, 0}, {8, 4}, {12, 1}, {17, 15}, {7, 16}};
        for (int[] call : bad) {
            Check.due("same(" + call[0] + ", " + call[1] + ")", x.same(call[0], call[1]), -1);
        }
        int[][] no = {{15, 0}, {15, 2}, {16, 8}, {17, 5}, {1, 0}, {3, 2}, {8, 7}, {12, 7}, {13, 12}};
        for (int[] call : no) {
            Check.due("same(" + call[0] + ", " + call[1] + ")", x.same(call[0], call[1]), -2);
        }
    }

    private static void refusedWords(PronounOrders x, boolean isFull) {
        String[] bad = {"", "Look", "lookaheads", "the", "yourself", "look ", "l00k"};
        for (String letters : bad) {
            Check.due("word '" + letters + "'", Check.word(x, letters, 1), -1);
        }
        Check.due("no sort", Check.word(x, "fresh", 4), -1);
        Check.due("told already", Check.word(x, "look", 0), -2);
        Check.due("told already", Check.word(x, "lantern", 3), -2);
        if (isFull) {
            Check.due("full", Check.word(x, "fresh", 0), -3);
        }
    }

    private static void questions(PronounOrders x) {
        for (int i = 0; i < 3; i++) {
            for (int what = 0; what < 5; what++) {
                x.order(i, what);
                x.table(what, i);
                x.count(what);
            }
            x.given(i, 0, 0);
            x.given(i, 1, 0);
            Check.due("fault", x.fault(), 5);
        }
    }

    private static void wrongQuestions(PronounOrders x) {
        for (int wrong : WRONG) {
            Check.due("order(" + wrong + ", 0)", x.order(wrong, 0), -1);
            Check.due("order(0, " + wrong + ")", x.order(0, wrong), -1);
            Check.due("given(" + wrong + ", 0, 0)", x.given(wrong, 0, 0), -1);
            Check.due("given(0, " + wrong + ", 0)", x.given(0, wrong, 0), -1);
            Check.due("given(0, 0, " + wrong + ")", x.given(0, 0, wrong), -1);
            Check.due("table(" + wrong + ", 0)", x.table(wrong, 0), -1);
            Check.due("table(0, " + wrong + ")", x.table(0, wrong), -4);
            Check.due("count(" + wrong + ")", x.count(wrong), -1);
        }
    }

    /** Asks for all that can be asked, then reads lines that need all that was told. */
    private static List<Integer> probes(PronounOrders x) {
        List<Integer> found = new ArrayList<>();
        state(x, found);
        found.add(x.line());
        state(x, found);
        String[] lines = {"take my box. take his lamp", "take all", "look", "get lantern. again", "use it into coins",
            "please take red box, blue box", "take red", "him, look"};
        for (String line : lines) {
            found.add(Check.line(x, line));
            found.add(x.fault());
            found.add(x.order(0, 3));
            found.add(x.given(0, 0, 0));
        }
        for (int thing = 1; thing < 8; thing++) {
            found.add(x.see(thing, true));
            found.add(x.turn(thing, 0));
        }
        for (int verb = 0; verb < 4; verb++) {
            found.add(x.form(verb, 0));
        }
        return found;
    }

    private static void state(PronounOrders x, List<Integer> found) {
        for (int what = 0; what < 5; what++) {
            found.add(x.count(what));
            found.add(x.order(0, what));
        }
        found.add(x.fault());
        for (int k = 0; k < 3; k++) {
            found.add(x.given(0, 0, k));
            found.add(x.given(0, 1, k));
            found.add(x.table(k, 0));
            found.add(x.table(3, k));
        }
    }
}
