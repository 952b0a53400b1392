import java.io.IOException;
import java.lang.reflect.Method;
import java.lang.reflect.Modifier;
import java.nio.file.Files;
import java.nio.file.Path;
import java.util.ArrayList;
import java.util.List;
import java.util.Random;
import java.util.Set;
import java.util.TreeSet;
import java.util.regex.Matcher;
import java.util.regex.Pattern;

/** The public face, what of LANGUAGE.md can be read off the source, the room, and calls with any arguments. */
final class FaceTest {
    private static final String FACE = "feed(IIIII)I end(I)I text(II)I fault(I)I ship(II)I hand(II)I paper(II)I "
        + "watch(III)I second(IIIII)I run(IIIII)J peak(IIIII)I found(IIIIII)J iron(IIIZ)J line(IIII)I alone(III)I "
        + "hard(IIII)I set(III)I worth(IIII)J night(IIII)J cloud(IIII)I coarse(IIII)I weary(IIIIZ)I tries(IIIZ)J "
        + "learning(IIII)I steers(IIII)J change(IIII)I order(IIII)I both(IIIIZ)J apart(IIIZ)I whose(II)I tells(III)I "
        + "slipped(IIIIIZ)J lead(IIII)I bound(IIIII)I first(IIII)I better(IIII)I reads(IIIIII)I parted(IIII)I "
        + "count(I)I image(I)Z again(I)Z";

    public static void main(String[] args) throws Exception {
        face();
        language(Path.of(args.length > 0 ? args[0] : "src/main/java/HelmHand.java"));
        room();
        anyArguments();
        Testing.close("FaceTest");
    }

    private static void due(String call, long got, long want) {
        Testing.due(call, got, want);
    }

    private static char letter(Class<?> type) {
        return type == int.class ? 'I' : type == long.class ? 'J' : type == boolean.class ? 'Z' : '?';
    }

    private static void face() throws NoSuchFieldException {
        Set<String> want = new TreeSet<>(List.of(FACE.split(" ")));
        Set<String> got = new TreeSet<>();
        for (Method m : HelmHand.class.getDeclaredMethods()) {
            if (Modifier.isPrivate(m.getModifiers())) {
                due("private " + m.getName() + " bears a public name",
                    want.stream().anyMatch(f -> f.startsWith(m.getName() + "(")) ? 1 : 0, 0);
            } else {
                StringBuilder text = new StringBuilder(m.getName()).append('(');
                for (Class<?> type : m.getParameterTypes()) {
                    text.append(letter(type));
                }
                got.add(text.append(')').append(letter(m.getReturnType())).toString());
                due(m.getName() + " is public", Modifier.isPublic(m.getModifiers()) && !Modifier.isStatic(m.getModifiers()) ? 1 : 0, 1);
            }
        }
        due("the face " + got, got.equals(want) ? 1 : 0, 1);
        due("how many", got.size(), 41);
        due("public and final", HelmHand.class.getModifiers() & (Modifier.PUBLIC | Modifier.FINAL), Modifier.PUBLIC | Modifier.FINAL);
        due("fields", HelmHand.class.getFields().length, 1);
        due("NONE", HelmHand.class.getField("NONE").getModifiers(), Modifier.PUBLIC | Modifier.STATIC | Modifier.FINAL);
        due("constructors", HelmHand.class.getConstructors().length, 1);
        due("classes", HelmHand.class.getDeclaredClasses().length <= 12 ? 1 : 0, 1);
    }

    private static void language(Path file) throws IOException {
        String source = Files.readString(file).replaceAll("/\\*(?s:.*?)\\*/", "").replaceAll("//[^\n]*", "")
            .replaceAll("\"[^\"\n]*\"", "\"\"");
        String[] words = {"throw", "throws", "try", "catch", "synchronized", "assert", "package", "import", "instanceof",
            "protected", "volatile", "native", "transient", "var", "Object", "Exception", "Thread", "System.out",
            "nanoTime", "MAX_VALUE", "MIN_VALUE", "currentTimeMillis", "Random", "hashCode", "toString", "\\w+Exact"};
        for (String word : words) {
            due("LANGUAGE: " + word, Pattern.compile("\\b" + word + "\\b").matcher(source).find() ? 1 : 0, 0);
        }
        due("LANGUAGE: lambdas, method references", source.contains("->") || source.contains("::") ? 1 : 0, 0);
        due("LANGUAGE: signs 1 to 127", source.chars().allMatch(c -> c > 0 && c < 128) ? 1 : 0, 1);
        due("LANGUAGE: ? : &", source.contains("\"\" +") || source.contains("+ \"\"") ? 1 : 0, 0);
        methods(source);
    }

    /** Rule 11: at most seven parameters, some sixty lines; rule 5: static fields are final. */
    private static void methods(String source) {
        String[] lines = source.split("\n", -1);
        Pattern head = Pattern.compile("^ {4,8}(?:(?:public|private|static|final) )*(?:[\\w\\[\\]]+ )?(\\w+)\\(([^)]*)\\) \\{$");
        List<String> seen = new ArrayList<>();
        for (int i = 0; i < lines.length; i++) {
            Matcher m = head.matcher(lines[i]);
            if (m.find()) {
                seen.add(m.group(1));
                due("parameters of " + m.group(1), m.group(2).split(",").length <= 7 ? 1 : 0, 1);
                String end = lines[i].replaceAll("\\S.*", "") + "}";
                int k = i;
                while (k < lines.length && !lines[k].equals(end)) {
                    k++;
                }
                due("lines of " + m.group(1) + ": " + (k - i), k - i <= 60 ? 1 : 0, 1);
            }
            boolean field = lines[i].matches("\\s+(?:(?:public|private) )?static (?!final |class ).*[;=].*") && !lines[i].contains("(");
            due("static and not final: " + lines[i], field ? 1 : 0, 0);
        }
        due("methods were seen: " + seen.size(), seen.size() > 100 ? 1 : 0, 1);
    }

    /** After the first calls no call makes anything: what a run allocates does not grow with its calls. */
    private static void room() {
        com.sun.management.ThreadMXBean bean =
            (com.sun.management.ThreadMXBean) java.lang.management.ManagementFactory.getThreadMXBean();
        HelmHand x = everyThing();
        every(x, 3);
        long before = bean.getThreadAllocatedBytes(Thread.currentThread().getId());
        for (int i = 0; i < 8; i++) {
            every(x, 3);
        }
        long made = bean.getThreadAllocatedBytes(Thread.currentThread().getId()) - before;
        due("bytes made by 8 rounds of calls: " + made, made < 8_000 ? 1 : 0, 1);
    }

    private static HelmHand everyThing() {
        HelmHand x = new HelmHand();
        for (int i = 0; i < 2; i++) {
            Testing.tell(x, 0, "turn 2;lag 1;start 90 -4;sea 3 -2 4 " + i + ";");
            Testing.tell(x, 1, "far 30;quick 10;slips 9;star 1 4;");
            Testing.tell(x, 1, "far 9;been 5;tired 4;easy;");
            Testing.tell(x, 2, "row 90 70 60 40 10;");
            Testing.tell(x, 3, "man 0 9;man 1 9;");
        }
        return x;
    }

    private static long every(HelmHand x, int n) {
        long all = x.second(0, 0, 1, n, 0) + x.run(0, 0, 1, n, 0) + x.peak(0, 0, 1, n, 0) + x.found(0, 0, n, 9, 9, 2);
        all += x.iron(0, 0, n, true) + x.line(0, 0, n, 2) + x.alone(0, n, 90) + x.hard(0, 0, n, 90) + x.set(0, 0, n);
        all += x.worth(0, 0, n, 0) + x.night(0, 0, n, 4) + x.cloud(0, 0, n, 90) + x.coarse(0, 0, n, 50);
        all += x.weary(0, 0, n, 9, true) + x.tries(0, 0, n, true) + x.learning(0, 0, n, 30) + x.steers(0, 0, 1, 0);
        all += x.change(0, 0, 1, n) + x.order(0, 15, n + 1, 0) + x.both(0, 0, 1, n, true) + x.apart(0, 0, 0, true);
        all += x.whose(0, 0) + x.tells(0, 0, 0) + x.slipped(0, 0, 3, 20, n, true) + x.lead(0, 0, n, 3);
        all += x.bound(0, 0, n, 90, 0) + x.first(0, 0, n, 2) + x.better(0, 0, 1, n) + x.reads(0, 0, 0, 9, 9, 2);
        all += x.parted(0, 0, 1, 0) + x.count(0) + x.fault(0) + x.ship(0, 0) + x.hand(0, 0) + x.paper(0, 0);
        all += x.watch(0, 0, 0) + (x.image(1) ? 1 : 0) + (x.again(1) ? 1 : 0) + x.feed(1, 2, 3, 4, 5) + x.end(0) + x.text(0, 0);
        return all;
    }

    /** Rule 7: no call throws, whatever it is given, on objects with much, with nothing, with anything on the tape. */
    private static void anyArguments() throws Exception {
        Random random = new Random(7);
        int[] odd = {Integer.MIN_VALUE, Integer.MIN_VALUE + 1, -100000, -2, -1, 0, 1, 2, 3, 4, 9, 20, 21, 60, 200, 201, 400, 401,
            1000, 1400, 1 << 20, Integer.MAX_VALUE - 1, Integer.MAX_VALUE};
        Method[] calls = HelmHand.class.getMethods();
        for (int round = 0; round < 60; round++) {
            HelmHand x = round % 3 == 0 ? new HelmHand() : everyThing();
            for (int i = 0; i < 400; i++) {
                Method call = calls[random.nextInt(calls.length)];
                if (call.getDeclaringClass() != HelmHand.class) {
                    continue;
                }
                Object[] given = new Object[call.getParameterCount()];
                for (int k = 0; k < given.length; k++) {
                    boolean wild = random.nextInt(4) == 0;
                    int number = wild ? odd[random.nextInt(odd.length)] : random.nextInt(5);
                    given[k] = call.getParameterTypes()[k] == boolean.class ? (Object) (number % 2 == 0) : (Object) number;
                }
                call.invoke(x, given);
            }
        }
        due("every call came back", 1, 1);
    }
}
