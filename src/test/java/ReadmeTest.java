import java.nio.file.Files;
import java.nio.file.Path;
import java.util.regex.Matcher;
import java.util.regex.Pattern;

/** The example in README.md: each line that names an answer is here as it is there, and answers so. */
public final class ReadmeTest {
    private static final Check c = new Check();

    public static void main(String[] args) throws Exception {
        DidITurnItOff x = new DidITurnItOff();
        line("int stove = x.deed(1, 6);", x.deed(1, 6));
        c.holds("the text", readme().contains("\"worry 5;heed 6 k=1\""));
        Check.feed(x, "worry 5;heed 6 k=1");
        line("int house = x.house();", x.house());
        line("int care = x.of(stove, 7);", x.of(0, 7));
        line("int morning = x.pass(3);", x.pass(3));
        line("int trace = x.of(stove, 3);", x.of(0, 3));
        line("int yard = x.of(stove, 8);", x.of(0, 8));
        line("int which = x.best(4, 0);", x.best(4, 0));
        line("int worth = x.best(4, 1);", x.best(4, 1));
        line("int plan = x.renew(stove, 3, 60);", x.renew(0, 3, 60));
        line("int refused = x.hurry(21);", x.hurry(21));
        everyCallStands();
        c.end("ReadmeTest");
    }

    private static String readme() throws Exception {
        return Files.readString(Path.of("README.md"));
    }

    private static void line(String call, int answer) throws Exception {
        Matcher line = Pattern.compile("(?m)^" + Pattern.quote(call) + " *// (-?\\d+): ").matcher(readme());
        boolean isThere = line.find();
        c.holds("README tells " + call, isThere);
        if (isThere) c.due(call, Integer.parseInt(line.group(1)), answer);
    }

    private static void everyCallStands() throws Exception {
        Matcher call = Pattern.compile("(?m)^    public (?:int|long) (\\w+)\\(").matcher(Files.readString(Path.of("../shared/DOC.md")));
        int calls = 0;
        while (call.find()) {
            calls++;
            c.holds("README names " + call.group(1), readme().contains("`" + call.group(1) + "("));
        }
        c.due("calls of the document", 30, calls);
    }
}
