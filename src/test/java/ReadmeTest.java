import java.io.IOException;
import java.lang.reflect.Method;
import java.lang.reflect.Modifier;
import java.nio.file.DirectoryStream;
import java.nio.file.Files;
import java.nio.file.Path;
import java.util.Set;
import java.util.TreeSet;
import java.util.regex.Matcher;
import java.util.regex.Pattern;

/** README.md tells the class and its tests as they are. */
final class ReadmeTest {
    private static final Pattern CALL = Pattern.compile("arms\\.(\\w+)\\(([-\\d, ]*)\\); +// (-?\\d+)(:.*)?");

    private final String text;
    private final TrueArms arms = new TrueArms();

    private ReadmeTest(String text) {
        this.text = text;
    }

    public static void main(String[] args) throws Exception {
        ReadmeTest page = new ReadmeTest(Files.readString(Path.of("README.md")));
        page.example();
        page.calls();
        page.refusals();
        page.findings();
        page.classesInside();
        page.tests();
        Due.end();
    }

    private void example() throws Exception {
        int asked = 0;
        for (String line : text.split("\n")) {
            if (line.startsWith("arms.")) {
                Matcher call = CALL.matcher(line);
                boolean read = call.matches();
                Due.holds("a call with its answer: " + line, read);
                if (read) {
                    Due.is("README: " + line, answerOf(call.group(1), call.group(2)), Long.parseLong(call.group(3)));
                    asked++;
                }
            }
        }
        Due.holds("README has an example", asked > 20);
    }

    private long answerOf(String name, String list) throws Exception {
        String[] numbers = list.isBlank() ? new String[0] : list.split(", ");
        Object[] arguments = new Object[numbers.length];
        for (int k = 0; k < numbers.length; k++) {
            arguments[k] = Integer.valueOf(numbers[k]);
        }
        for (Method m : TrueArms.class.getDeclaredMethods()) {
            if (m.getName().equals(name) && Modifier.isPublic(m.getModifiers())) {
                return ((Number) m.invoke(arms, arguments)).longValue();
            }
        }
        throw new IllegalArgumentException("no call " + name);
    }

    private void calls() {
        for (Method m : TrueArms.class.getDeclaredMethods()) {
            if (Modifier.isPublic(m.getModifiers())) {
                Due.holds("README names " + m.getName(), text.contains("`" + m.getName() + "`"));
                // digest() is a long too, but refuses nothing
                boolean isLong = m.getReturnType() == long.class && !m.getName().equals("digest");
                boolean toldAsLong = rowWith("(`table`").contains("`" + m.getName() + "`");
                Due.holds("README tells which refusals of " + m.getName() + " are longs", toldAsLong == isLong);
            }
        }
    }

    private String rowWith(String start) {
        for (String line : text.split("\n")) {
            if (line.startsWith("| ") && line.contains(start)) {
                return line;
            }
        }
        return "";
    }

    private void refusals() {
        TrueArms x = new TrueArms();
        x.posture(0, 0, 0);
        tells("| `turn` |", x.turn(36, 0), "-1000");
        tells("| `measure` |", x.measure(1, 0), "-10000");
        tells("| `measure` |", x.measure(0, 0), "-10001");
        tells("| `hand` |", x.hand(1, 0) - (long) Integer.MIN_VALUE, "the least int (BAD)");
        tells("| `answer` |", x.answer(36, 0) - (long) Integer.MIN_VALUE, "the least int (BAD)");
        tells("| `answer` |", x.answer(0, 1) - (long) Integer.MIN_VALUE, "the least int and 1 (NOT)");
        tells("| `get` |", x.get(4, 0, 0) - (long) Integer.MIN_VALUE, "the least int (BAD");
        tells("(`table`", x.table(3, 0) - Long.MIN_VALUE, "2 (BAD)");
        tells("(`table`", x.fit(0) - Long.MIN_VALUE, "3 (NOT)");
        tells("| `BAD`", TrueArms.BAD, "-2");
        tells("| `BAD`", TrueArms.NOT, "-3");
        tells("| `BAD`", TrueArms.FULL, "-4");
        tells("| `BAD`", TrueArms.NONE, "-1");
    }

    /** The number in the words is what is due; the bare least int stands for 0. */
    private void tells(String start, long got, String words) {
        Due.holds("README tells " + words + " of " + start, rowWith(start).contains(words));
        Matcher number = Pattern.compile("-?\\d+").matcher(words);
        Due.is("README: " + start + " " + words, got, number.find() ? Long.parseLong(number.group()) : 0);
    }

    private void findings() {
        TrueArms x = new TrueArms();
        StringBuilder all = new StringBuilder();
        all.append(x.lose(0)).append(", ");
        x.sheet(0, 0, 1);
        x.sheet(1, 1, 1);
        all.append(x.put(0, 0, 1, 0)).append(", ").append(x.put(0, 1, 0, 0)).append(", ");
        all.append(x.copy(0, 0, 1, 0, 1)).append(", ").append(x.sheet(0, 0, -1)).append(";");
        Due.holds("README tells the findings " + all, rowWith("NULL, INDEX, CAST, STORE, SIZE").contains(all));
    }

    private void classesInside() {
        for (Class<?> one : TrueArms.class.getDeclaredClasses()) {
            boolean named = Pattern.compile("`" + one.getSimpleName() + "`\\s\\(").matcher(text).find();
            Due.holds("README names " + one.getSimpleName(), named);
        }
    }

    private void tests() throws IOException {
        Set<String> there = new TreeSet<>();
        try (DirectoryStream<Path> files = Files.newDirectoryStream(Path.of("src/test/java"), "*Test.java")) {
            for (Path file : files) {
                there.add(file.getFileName().toString().replace(".java", ""));
            }
        }
        Set<String> told = new TreeSet<>();
        Matcher name = Pattern.compile("`(\\w+Test)`").matcher(text);
        while (name.find()) {
            told.add(name.group(1));
        }
        Due.holds("README tells the tests that are there: " + there + ", told " + told, there.equals(told));
        Due.holds("README tells how to run them", text.contains("\n    .ci/run\n"));
    }
}
