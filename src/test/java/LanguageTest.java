import java.lang.reflect.Constructor;
import java.lang.reflect.Field;
import java.lang.reflect.Method;
import java.lang.reflect.Modifier;
import java.nio.file.Files;
import java.nio.file.Path;
import java.util.ArrayList;
import java.util.List;
import java.util.Set;
import java.util.TreeSet;
import java.util.regex.Matcher;
import java.util.regex.Pattern;

/** The public face, and those rules of LANGUAGE.md that can be seen in the text and in the compiled class. */
final class LanguageTest {
    private static final String FACE = "answer(int,int)int answers()int best(int)int clear()int copy(int,int,int,int,int)int "
        + "count(int)int digest()long drift(int,int,int,int)int fit(int)long get(int,int,int)int hand(int,int)int "
        + "leave(int,boolean)int length(int,int)int limit(int,int,int)int lose(int)int measure(int,int)int mend()int "
        + "miss(int)int near(int,int)long nearest(int,int)int pair(int,int,int,int)int posture(int,int,int)int "
        + "put(int,int,int,int)int rank()int sheet(int,int,int)int shut()int table(int,int)long told(int)int "
        + "turn(int,int)int used()int weight(int)long worst()int";

    public static void main(String[] args) throws Exception {
        face();
        constants();
        classesInside();
        staticFields(TrueArms.class);
        for (Class<?> one : TrueArms.class.getDeclaredClasses()) {
            staticFields(one);
            methodsOf(one);
        }
        methodsOf(TrueArms.class);
        String source = Files.readString(Path.of("src/main/java/TrueArms.java"));
        library(source);
        methodLengths(source);
        text(source);
        Due.end();
    }

    private static void face() {
        Set<String> open = new TreeSet<>();
        Set<String> openNames = new TreeSet<>();
        for (Method m : TrueArms.class.getDeclaredMethods()) {
            if (!Modifier.isPrivate(m.getModifiers())) {
                List<String> types = new ArrayList<>();
                for (Class<?> type : m.getParameterTypes()) {
                    types.add(type.getName());
                }
                open.add(m.getName() + "(" + String.join(",", types) + ")" + m.getReturnType().getName());
                openNames.add(m.getName());
                Due.holds(m.getName() + " is public", Modifier.isPublic(m.getModifiers()));
                Due.holds(m.getName() + " is not static", !Modifier.isStatic(m.getModifiers()));
            }
        }
        Due.holds("the face is the document's: " + open, String.join(" ", open).equals(FACE));
        for (Method m : TrueArms.class.getDeclaredMethods()) {
            boolean named = Modifier.isPrivate(m.getModifiers()) && openNames.contains(m.getName());
            Due.holds("private " + m.getName() + " has a name of its own", !named);
        }
        Constructor<?>[] made = TrueArms.class.getDeclaredConstructors();
        Due.holds("one constructor", made.length == 1 && Modifier.isPublic(made[0].getModifiers()));
        int bits = TrueArms.class.getModifiers();
        Due.holds("public and final", Modifier.isPublic(bits) && Modifier.isFinal(bits));
    }

    private static void constants() {
        Due.is("NONE", TrueArms.NONE, -1);
        Due.is("BAD", TrueArms.BAD, -2);
        Due.is("NOT", TrueArms.NOT, -3);
        Due.is("FULL", TrueArms.FULL, -4);
        Set<String> open = new TreeSet<>();
        for (Field f : TrueArms.class.getDeclaredFields()) {
            if (!Modifier.isPrivate(f.getModifiers())) {
                open.add(f.getName());
            }
        }
        Due.holds("the constants are the document's: " + open, open.equals(Set.of("NONE", "BAD", "NOT", "FULL")));
    }

    private static void classesInside() {
        Class<?>[] inside = TrueArms.class.getDeclaredClasses();
        Due.holds("at most twelve classes", inside.length < 12);
        for (Class<?> one : inside) {
            int bits = one.getModifiers();
            Due.holds(one + " is static", Modifier.isStatic(bits));
            Due.holds(one + " is not open", !Modifier.isPublic(bits) && !Modifier.isProtected(bits));
        }
    }

    /** Rules 5 and 11: static fields are constants of the kinds that are listed, and some twenty others at most. */
    private static void staticFields(Class<?> one) {
        Set<Class<?>> kinds = Set.of(int.class, long.class, boolean.class, char.class, String.class,
            int[].class, long[].class, char[].class, byte[].class);
        int own = 0;
        for (Field f : one.getDeclaredFields()) {
            if (Modifier.isStatic(f.getModifiers())) {
                Due.holds("static " + f + " is final", Modifier.isFinal(f.getModifiers()));
                Due.holds("static " + f + " is of a kind that may be", kinds.contains(f.getType()));
            } else {
                own++;
            }
        }
        Due.holds(one + " has some twenty fields at most", own <= 20);
    }

    /** Rules 1 and 11: names of the face are the face's alone, and a method takes seven parameters at most. */
    private static void methodsOf(Class<?> one) {
        for (Method m : one.getDeclaredMethods()) {
            Due.holds(m + " takes seven parameters at most", m.getParameterCount() <= 7);
            boolean ofFace = (" " + FACE).contains(" " + m.getName() + "(");
            Due.holds(m + " has a name of its own", Modifier.isPublic(m.getModifiers()) || !ofFace);
        }
    }

    private static String withoutComments(String source) {
        return source.replaceAll("(?s)/\\*.*?\\*/", "").replaceAll("//[^\n]*", "");
    }

    /** Rule 4: no more of the library than this. */
    private static void library(String source) {
        Set<String> may = Set.of("Math.abs", "Math.max", "Math.min", "Math.floorDiv", "Integer.bitCount", "Arrays.fill",
            "System.arraycopy");
        Matcher use = Pattern.compile("\\b(Math|StrictMath|Integer|Long|Arrays|System|Character|Short|Byte|Objects)\\.\\w+")
            .matcher(withoutComments(source).replace("import java.util.Arrays;", ""));
        int found = 0;
        while (use.find()) {
            Due.holds(use.group() + " is in the list", may.contains(use.group()));
            found++;
        }
        Due.holds("some of the library is used", found > 0);
    }

    /** Rule 11: from a line that opens a method to the brace that stands as far in as it does. */
    private static void methodLengths(String source) {
        String[] lines = source.split("\n");
        int found = 0;
        for (int from = 0; from < lines.length; from++) {
            if (lines[from].matches(" {4,8}(?!if|for|switch)[\\w\\[\\] ]+\\(.*\\) \\{")) {
                String end = lines[from].replaceAll("\\S.*", "") + "}";
                int to = from;
                while (to < lines.length && !lines[to].equals(end)) {
                    to++;
                }
                Due.holds("sixty lines at most: " + lines[from].trim(), to - from < 60);
                found++;
            }
        }
        Due.holds("the methods are found: " + found, found > 60);
    }

    private static void text(String source) {
        String code = withoutComments(source);
        String[] never = {"\\bthrow\\b", "\\btry\\b", "\\bcatch\\b", "\\bsynchronized\\b", "\\bassert\\b", "->", "::",
            "\\bpackage\\b", "Exact\\b", "\\bvar\\b", "\\bthrows\\b", "\\bstatic\\s*\\{", "Double", "MIN_VALUE", "MAX_VALUE"};
        for (String word : never) {
            Due.holds("no " + word, !Pattern.compile(word).matcher(code).find());
        }
        String rest = code.replace("import java.util.Arrays;", "");
        Due.holds("no other import", !rest.contains("import"));
        for (String line : code.split("\n")) {
            boolean makes = Pattern.compile("\\bnew\\b").matcher(line).find();
            boolean onceOnly = line.contains("final ") || line.contains("sheets[s] = new Sheet()");
            Due.holds("made with the object: " + line.trim(), !makes || onceOnly);
            Due.holds("characters 0 to 255: " + line.trim(), line.chars().allMatch(c -> c < 256));
        }
    }
}
