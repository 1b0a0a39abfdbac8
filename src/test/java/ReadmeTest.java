import java.io.IOException;
import java.nio.file.Files;
import java.nio.file.Path;
import java.util.ArrayList;
import java.util.List;
import java.util.regex.Matcher;
import java.util.regex.Pattern;

/** README.md's example answers what is written behind its lines, and its table has every call of the face. */
public final class ReadmeTest {
    private static final String[] CALLS = {
        "row", "drop", "hold", "poke", "get", "begin", "round", "rounds", "differ", "equal", "table", "found",
        "foundValue", "digest", "sum", "broken", "anew", "leaf",
    };

    private static final List<String> answers = new ArrayList<>();

    private static void asked(Object answer) {
        answers.add(answer.toString());
    }

    /** The example, with every answer kept that the README writes down. */
    private static void example() {
        DigestTrees x = new DigestTrees();
        asked(x.row(0, 2, 17, 5L));
        asked(x.row(1, 2, 17, 6L));
        asked(x.equal());
        x.begin();
        while (x.round() > 0) { }
        asked(x.rounds());
        asked(x.differ(0, 0));
        asked(x.differ(0, 1));
        asked(x.differ(0, 2));
        asked(x.differ(1, 0));
        asked(x.table(9));
        asked(x.found(0, 0));
        asked(x.found(0, 2));
        asked(x.foundValue(0));
        asked(x.poke(0, 2, 17, 3L));
        asked(x.equal());
        asked(x.broken(0));
        asked(x.anew(0));
        asked(x.equal());
    }

    public static void main(String[] args) throws IOException {
        String readme = Files.readString(Path.of("README.md"));
        List<String> written = new ArrayList<>();
        Matcher line = Pattern.compile("(?m)^x\\..*; +// (-?\\d+|true|false)(:.*)?$").matcher(readme);
        while (line.find()) {
            written.add(line.group(1));
        }
        example();
        boolean right = written.equals(answers);
        if (!right) {
            System.out.println("README.md has " + written + ", the class answered " + answers);
        }
        for (String call : CALLS) {
            if (!Pattern.compile("(?m)^\\| `" + call + "\\(").matcher(readme).find()) {
                right = false;
                System.out.println("README.md's table lacks " + call);
            }
        }
        System.out.println(right ? "README.md is as due" : "README.md is not as due");
        if (!right) {
            System.exit(1);
        }
    }
}
