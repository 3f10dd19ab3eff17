import java.lang.reflect.Constructor;
import java.lang.reflect.Field;
import java.lang.reflect.Method;
import java.lang.reflect.Modifier;
import java.nio.file.Files;
import java.nio.file.Path;
import java.util.Arrays;
import java.util.Set;
import java.util.TreeSet;
import java.util.regex.Matcher;
import java.util.regex.Pattern;

/** The rules of LANGUAGE.md that can be seen in the source and in the compiled classes. Runs in the project's root. */
public final class LanguageTest {
    private static final String FACE = "at/1 boil/2 book/2 brings/3 core/2 eater/1 end/1 falls/1 fault/1 feed/5 feeds/1"
        + " fence/2 game/1 goes/3 image/1 lasts/1 left/1 look/1 meets/2 of/2 party/1 plant/3 rules/1 set/3 state/1"
        + " swings/2 taste/3 text/1 tree/2 undo/0 weeks/1 weighs/1 who/2 whose/1";

    public static void main(String[] args) throws Exception {
        String source = bare(Files.readString(Path.of("src/main/java/BallotFruit.java")));
        words(source);
        library(source);
        methodsAreShort(source);
        face();
        membersOfAll();
        Check.finish();
    }

    /** Without comments, and with texts and signs emptied. */
    private static String bare(String s) {
        return s.replaceAll("(?s)/\\*.*?\\*/", "").replaceAll("//[^\n]*", "")
            .replaceAll("\"(\\\\.|[^\"\\\\])*\"", "\"\"").replaceAll("'(\\\\.|[^'\\\\])'", "'x'");
    }

    private static void words(String source) {
        String[] none = {"throw", "throws", "try", "catch", "synchronized", "assert", "import", "package", "protected",
            "Object", "enum", "record", "interface", "native", "volatile", "transient", "yield", "var"};
        for (String word : none) {
            Check.due("the word " + word, Pattern.compile("\\b" + word + "\\b").matcher(source).find(), false);
        }
        for (String sign : new String[] {"->", "::", "@", "[][][]"}) {
            Check.due("the sign " + sign, source.contains(sign), false);
        }
        Check.due("texts aren't joined by +", Pattern.compile("\"\"\\s*\\+|\\+\\s*\"\"").matcher(source).find(), false);
    }

    /** Only Math, Integer.bitCount, System.arraycopy and two functions of String are used. */
    private static void library(String source) {
        Set<String> used = new TreeSet<>();
        Matcher m = Pattern.compile("\\b(Math|Integer|Long|System|Arrays|String|StringBuilder)\\.(\\w+)").matcher(source);
        while (m.find()) {
            used.add(m.group(1) + "." + m.group(2));
        }
        used.removeAll(Set.of("Math.min", "Math.max", "Integer.bitCount", "System.arraycopy"));
        Check.due("no other library " + used, used.size(), 0);
    }

    private static void methodsAreShort(String source) {
        Matcher m = Pattern.compile("(?m)^( {4}| {8})(?! )[\\w\\[\\] ]*?(\\w+)\\(([^)]*)\\) \\{$").matcher(source);
        int methods = 0;
        while (m.find()) {
            methods++;
            int close = source.indexOf("\n" + m.group(1) + "}", m.end());
            long lines = source.substring(m.start(), close).lines().count() + 1;
            Check.due("lines of " + m.group(2) + ": " + lines, lines <= 60, true);
            Check.due("parameters of " + m.group(2), m.group(3).split(",").length <= 7, true);
        }
        Check.due("methods were found: " + methods, methods > 90, true);
    }

    private static void face() throws Exception {
        Class<?> c = BallotFruit.class;
        Check.due("public and final", Modifier.isPublic(c.getModifiers()) && Modifier.isFinal(c.getModifiers()), true);
        Set<String> open = new TreeSet<>();
        for (Method m : c.getDeclaredMethods()) {
            if (!Modifier.isPrivate(m.getModifiers())) {
                open.add(m.getName() + "/" + m.getParameterCount());
                Check.due("public " + m, Modifier.isPublic(m.getModifiers()) && !Modifier.isStatic(m.getModifiers()), true);
            }
        }
        Check.due("the face is the document's: " + open, String.join(" ", open).equals(FACE), true);
        Constructor<?>[] constructors = c.getDeclaredConstructors();
        Check.due("one constructor", constructors.length, 1);
        Check.due("a public one", Modifier.isPublic(constructors[0].getModifiers()), true);
        Check.due("of nothing", constructors[0].getParameterCount(), 0);
        for (Field f : c.getDeclaredFields()) {
            Check.due("hidden " + f, Modifier.isPrivate(f.getModifiers()), !f.getName().equals("NONE"));
        }
    }

    private static void membersOfAll() {
        Set<String> face = new TreeSet<>();
        for (String s : FACE.split(" ")) {
            face.add(s.substring(0, s.indexOf('/')));
        }
        Class<?>[] inside = BallotFruit.class.getDeclaredClasses();
        Check.due("classes", inside.length <= 11, true);
        Class<?>[] all = Arrays.copyOf(inside, inside.length + 1);
        all[inside.length] = BallotFruit.class;
        for (Class<?> c : all) {
            Check.due("static " + c, c == BallotFruit.class || Modifier.isStatic(c.getModifiers()), true);
            long own = Arrays.stream(c.getDeclaredFields()).filter(f -> !Modifier.isStatic(f.getModifiers())).count();
            Check.due("fields of " + c + ": " + own, own <= 20, true);
            for (Field f : c.getDeclaredFields()) {
                boolean is = !Modifier.isStatic(f.getModifiers()) || Modifier.isFinal(f.getModifiers());
                Check.due("no static state " + f, is, true);
            }
            for (Method m : c.getDeclaredMethods()) {
                boolean isOfFace = c == BallotFruit.class && Modifier.isPublic(m.getModifiers());
                Check.due("no name of the face " + m, !isOfFace && face.contains(m.getName()), false);
            }
        }
    }
}
