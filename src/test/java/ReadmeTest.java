import java.io.IOException;
import java.nio.file.Files;
import java.nio.file.Path;

/** The example of README.md stands here line by line, and answers as its comments say. */
public final class ReadmeTest {
    private static final String FENCE = "```";

    public static void main(String[] args) throws IOException {
        answers();
        standsInBoth();
        Check.end();
    }

    private static void answers() {
        PronounOrders x = new PronounOrders();
        int lamp = x.thing(0);              // a thing that is meant by "it"
        x.feed(4, 0x656b6174L);             // "take"
        int take = x.word(1);               // a verb
        x.form(take, 1);                    // it goes with things
        x.feed(4, 0x706d616cL);             // "lamp"
        int name = x.word(0);               // a name
        x.name(name, lamp, 0);              // a noun of the lamp
        x.feed(8, 0x6d616c20656b6174L);     // "take lam"
        x.feed(1, 0x70L);                   // "p"
        int orders = x.line();              // 1
        int verb = x.order(0, 1);           // take
        int given = x.given(0, 0, 0);       // lamp
        int it = x.table(0, 0);             // lamp: so "take it" means it from now on
        x.feed(8, 0x6d696820656b6174L);     // "take him"
        int place = -10 - x.line();         // 5: where the fault stands
        int fault = x.fault();              // 6: nobody is meant by "him" yet
        Check.due("lamp", lamp, 1);
        Check.due("take", take, 0);
        Check.due("name", name, 1);
        Check.due("orders", orders, 1);
        Check.due("verb", verb, take);
        Check.due("given", given, lamp);
        Check.due("it", it, lamp);
        Check.due("place", place, 5);
        Check.due("fault", fault, 6);
    }

    /** .ci/run starts the tests in the project's own directory, so both files are found from there. */
    private static void standsInBoth() throws IOException {
        String readme = Files.readString(Path.of("README.md"));
        String here = Files.readString(Path.of("src/test/java/ReadmeTest.java"));
        int from = readme.indexOf(FENCE + "java\n");
        int to = readme.indexOf(FENCE, from + FENCE.length());
        Check.due("README.md has an example", from >= 0 && to > from ? 1 : 0, 1);
        if (from >= 0 && to > from) {
            for (String line : readme.substring(from, to).split("\n")) {
                boolean isFence = line.startsWith(FENCE);
                Check.due("in both: " + line, isFence || here.contains("        " + line + "\n") ? 1 : 0, 1);
            }
        }
    }
}
