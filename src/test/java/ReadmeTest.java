import java.io.IOException;
import java.nio.charset.StandardCharsets;
import java.nio.file.Files;
import java.nio.file.Path;

/** The example in README.md: its lines are those that are called here, and its answers are the program's. */
public final class ReadmeTest {
    private static final String BOOK = "Bc21234567h00304s005d07";

    private static String readme;

    public static void main(String[] args) throws IOException {
        readme = Files.readString(Path.of("README.md"), StandardCharsets.UTF_8);
        LoafRounds bakery = new LoafRounds();
        int c = bakery.customer(2, 1234567);
        told("int c = bakery.customer(2, 1234567);", c);
        told("bakery.holiday(c, 3, 4);", bakery.holiday(c, 3, 4));
        told("bakery.set(0, 5);", bakery.set(0, 5));
        told("bakery.why(c);", bakery.why(c));
        told("bakery.days(7);", bakery.days(7));
        Checks.same("load of the text in README.md", lookOfTheText(), Checks.lookOf(bakery));
        told("bakery.customerOf(c, 2);", bakery.customerOf(c, 2));
        told("bakery.clearIn(c);", bakery.clearIn(c));
        told("bakery.leastOven(7);", bakery.leastOven(7));
        told("bakery.save(0);", bakery.save(0));
        told("bakery.undo();", bakery.undo());
        told("bakery.restore(0);", bakery.restore(0));
        Checks.noState("undo behind restore", bakery, bakery::undo);
        Checks.end();
    }

    private static void told(String call, int answer) {
        int at = readme.indexOf("\n" + call);
        String line = at < 0 ? "" : readme.substring(at + 1, readme.indexOf('\n', at + 1));
        int comment = line.indexOf("// ");
        String answerTold = comment < 0 ? "nothing" : line.substring(comment + 3, line.indexOf(':', comment));
        Checks.same(call + " in README.md", answerTold, "" + answer);
    }

    private static String lookOfTheText() {
        Checks.same("README.md tells the text", readme.contains("`" + BOOK + "`") ? 1 : 0, 1);
        LoafRounds x = Checks.withText(BOOK);
        Checks.same("load of the text in README.md", x.load(), 0);
        x.clearText();
        return Checks.lookOf(x);
    }
}
