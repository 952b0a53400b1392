import java.io.IOException;
import java.lang.reflect.Method;
import java.nio.file.Files;
import java.nio.file.Path;
import java.util.ArrayList;
import java.util.List;
import java.util.regex.Matcher;
import java.util.regex.Pattern;

/** README.md: its example stands here line by line and answers what it says; its table names every call. */
final class ReadmeTest {
    private static final Pattern ANSWER = Pattern.compile("long (\\w+) = .*?// (-?[0-9]+)");

    static int tell(HelmHand x, int sort, String text) {
        x.end(0);
        for (int i = 0; i < text.length(); i += 20) {
            int[] words = new int[5];
            for (int k = 0; k < 20; k++) {
                int sign = i + k < text.length() ? text.charAt(i + k) : ' ';
                words[k / 4] = words[k / 4] << 8 | sign;
            }
            x.feed(words[0], words[1], words[2], words[3], words[4]);
        }
        x.end(text.length());                        // without the blanks behind it
        return x.text(sort, HelmHand.NONE);          // NONE: a further one; else in the place of that one
    }

    public static void main(String[] args) throws IOException {
        String readme = Files.readString(Path.of("README.md"));
        List<String> example = exampleOf(readme);
        sameLines(example);
        example(example);
        everyCall(readme);
        Testing.close("ReadmeTest");
    }

    private static void example(List<String> lines) {
        HelmHand x = new HelmHand();
        int ship = tell(x, 0, "turn 2; lag 2; start 90 0; sea 3 -1 -4;");
        int hand = tell(x, 1, "far 20; quick 60;");
        int other = tell(x, 1, "far 12; quick 70; star 1 30;");
        long heads = x.second(ship, hand, 0, 10, 0);     // 456: HEADING behind second 10
        long cost = x.run(ship, hand, 0, 60, 0);         // 17527: COST of a RUN of 60 seconds
        long better = x.better(ship, hand, other, 60);   // 1: the second one costs less
        long far = x.found(ship, hand, 60, 20, 20, 0);   // 4: FAR of the rule that costs least
        long wrong = tell(x, 1, "far 120;");             // -1, HelmHand.NONE: a FAULT
        long fault = x.fault(0);                         // 2: a NUMBER that can't be
        long place = x.fault(1);                         // 4: its place on the tape
        due(lines, new long[] {heads, cost, better, far, wrong, fault, place});
    }

    /** The answers against the numbers that the example's remarks tell, in their order. */
    private static void due(List<String> lines, long[] got) {
        int seen = 0;
        for (String line : lines) {
            Matcher told = ANSWER.matcher(line);
            if (told.find()) {
                Testing.due(line, seen < got.length ? got[seen] : Long.MIN_VALUE, Long.parseLong(told.group(2)));
                seen++;
            }
        }
        Testing.due("answers that the example tells", seen, got.length);
    }

    private static List<String> exampleOf(String readme) {
        List<String> lines = new ArrayList<>();
        Matcher block = Pattern.compile("```java\n(.*?)```", Pattern.DOTALL).matcher(readme);
        while (block.find()) {
            for (String line : block.group(1).split("\n")) {
                lines.add(line.trim());
            }
        }
        return lines;
    }

    /** Each line of the example stands in this file, too, in its order: so what runs here is what is told there. */
    private static void sameLines(List<String> example) throws IOException {
        List<String> here = Files.readAllLines(Path.of("tests/ReadmeTest.java")).stream().map(String::trim).toList();
        Testing.due("the example has lines", example.size() > 20, true);
        int at = 0;
        for (String line : example) {
            int found = here.subList(at, here.size()).indexOf(line);
            Testing.due("README's line: " + line, found >= 0, true);
            at += Math.max(found + 1, 0);
        }
    }

    private static void everyCall(String readme) {
        for (Method call : HelmHand.class.getDeclaredMethods()) {
            if (java.lang.reflect.Modifier.isPublic(call.getModifiers())) {
                String named = "(?m)^\\|[^|]*`" + call.getName() + "`[^|]*\\|";
                Testing.due("README's table names " + call.getName(), Pattern.compile(named).matcher(readme).find(), true);
            }
        }
    }
}
