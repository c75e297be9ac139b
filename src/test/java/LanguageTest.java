import java.lang.reflect.Constructor;
import java.lang.reflect.Field;
import java.lang.reflect.Method;
import java.lang.reflect.Modifier;
import java.nio.file.Files;
import java.nio.file.Path;
import java.util.ArrayList;
import java.util.Arrays;
import java.util.List;
import java.util.TreeSet;
import java.util.regex.Matcher;
import java.util.regex.Pattern;

/** The face of the class, and the rules of LANGUAGE.md as far as a reader of words can see them. */
public final class LanguageTest {
    private static final String[] FACE = {"sea iii", "moon iiii", "terms ii", "feed iiiii", "end i",
        "row ", "foul ", "law ", "fault ", "force i", "level ii", "flow i", "kind ii", "cell iii",
        "slack ii", "late i", "boat ii", "soonest iiii", "way iiiii", "calmest iiii",
        "latest iiii", "move i", "tear ", "done iiii", "margin iii", "ship iii", "order i",
        "begins i", "taken i", "most ii", "cast ii", "agree ii", "tells i", "right ii", "mark i",
        "lost iiii", "day i", "drawn i", "image i", "back i", "count i", "status "};
    private static final String[] FORBIDDEN = {"throw", "throws", "try", "catch", "finally",
        "synchronized", "assert", "->", "::", "@", "volatile", "transient", "native", "extends",
        "hashCode", "toString", "getClass", "System.out", "currentTimeMillis", "nanoTime",
        "Random", "Thread", "Object", "Exception", "Exact", "var ", "protected"};
    private static final Due DUE = new Due();

    public static void main(String[] args) throws Exception {
        String source = Files.readString(Path.of(args[0]));
        face();
        classes();
        words(withoutWords(source));
        methods(withoutWords(source));
        DUE.close("LanguageTest");
    }

    private static void isSo(String what, boolean so) {
        DUE.is(what, so ? 1 : 0, 1);
    }

    private static void face() {
        Class<?> c = SlackRace.class;
        isSo("public and final", Modifier.isPublic(c.getModifiers())
                && Modifier.isFinal(c.getModifiers()));
        TreeSet<String> open = new TreeSet<>();
        for (Method m : c.getDeclaredMethods()) {
            if (!Modifier.isPrivate(m.getModifiers())) {
                boolean right = Modifier.isPublic(m.getModifiers())
                        && !Modifier.isStatic(m.getModifiers())
                        && m.getReturnType() == (m.getName().equals("taken") ? long.class : int.class)
                        && Arrays.stream(m.getParameterTypes()).allMatch(t -> t == int.class);
                isSo("face of " + m, right);
                open.add(m.getName() + " " + "i".repeat(m.getParameterCount()));
            }
        }
        isSo("the methods are " + open, open.equals(new TreeSet<>(Arrays.asList(FACE))));
        TreeSet<String> constants = new TreeSet<>();
        for (Field f : c.getDeclaredFields()) {
            if (!Modifier.isPrivate(f.getModifiers())) {
                constants.add(f.getName());
            }
        }
        isSo("the constants are " + constants,
                constants.equals(new TreeSet<>(List.of("NONE", "NOTHING"))));
        Constructor<?>[] made = c.getDeclaredConstructors();
        isSo("one constructor", made.length == 1 && made[0].getParameterCount() == 0
                && Modifier.isPublic(made[0].getModifiers()));
    }

    private static void classes() {
        TreeSet<String> publics = new TreeSet<>();
        for (String method : FACE) {
            publics.add(method.substring(0, method.indexOf(' ')));
        }
        List<Class<?>> all = new ArrayList<>(List.of(SlackRace.class.getDeclaredClasses()));
        isSo("classes", all.size() < 14);
        for (Class<?> c : all) {
            isSo(c + " is static and not public", Modifier.isStatic(c.getModifiers())
                    && !Modifier.isPublic(c.getModifiers()));
            for (Method m : c.getDeclaredMethods()) {
                isSo(m + " bears no public name", !publics.contains(m.getName()));
            }
        }
        all.add(SlackRace.class);
        for (Class<?> c : all) {
            int fields = 0;
            for (Field f : c.getDeclaredFields()) {
                boolean still = Modifier.isStatic(f.getModifiers());
                fields += still ? 0 : 1;
                isSo(f + " is final", !still || Modifier.isFinal(f.getModifiers()));
                isSo(f + " is no double", f.getType() != double.class && f.getType() != float.class);
            }
            isSo(c + " has " + fields + " fields", fields <= 20);
            for (Method m : c.getDeclaredMethods()) {
                isSo(m + " takes seven at most", m.getParameterCount() <= 7);
                boolean twice = c == SlackRace.class && Modifier.isPrivate(m.getModifiers())
                        && publics.contains(m.getName());
                isSo(m + " is not a public name", !twice);
            }
        }
    }

    /** The source without what stands in comments, texts and signs. */
    private static String withoutWords(String source) {
        Matcher m = Pattern.compile("/\\*.*?\\*/|//[^\n]*|\"[^\"\n]*\"|'[^'\n]+'", Pattern.DOTALL)
                .matcher(source);
        return m.replaceAll(r -> r.group().replaceAll("[^\n]", "_"));
    }

    private static void words(String source) {
        for (String word : FORBIDDEN) {
            String edge = Character.isLetter(word.charAt(0)) ? "(?<![A-Za-z_.])" : "";
            boolean there = Pattern.compile(edge + Pattern.quote(word)).matcher(source).find();
            isSo("no " + word, !there);
        }
        Matcher imports = Pattern.compile("import ([^;]+);").matcher(source);
        while (imports.find()) {
            isSo(imports.group(), List.of("java.util.Arrays", "java.util.ArrayList",
                    "java.util.List").contains(imports.group(1)));
        }
        isSo("no package", !Pattern.compile("^package", Pattern.MULTILINE).matcher(source).find());
        isSo("no static block", !Pattern.compile("static\\s*\\{").matcher(source).find());
        isSo("signs", source.chars().allMatch(ch -> ch < 128));
        Matcher library = Pattern.compile("\\b(Arrays|Math|System|Integer|Long)\\.(\\w+)")
                .matcher(source);
        List<String> known = List.of("fill", "copyOf", "copyOfRange", "abs", "min", "max",
                "arraycopy");
        while (library.find()) {
            isSo(library.group(), known.contains(library.group(2)));
        }
        isSo("no text is joined by +", !source.contains("_ +") && !source.contains("+ _"));
    }

    private static void methods(String source) {
        String[] lines = source.split("\n");
        int from = -1;
        String indent = "";
        for (int i = 0; i < lines.length; i++) {
            Matcher m = Pattern.compile("^( +)[\\w\\[\\] ]+\\(.*[^;]$").matcher(lines[i]);
            boolean opens = m.matches() && (m.group(1).length() == 4 || m.group(1).length() == 8)
                    && !lines[i].trim().matches("(if|for|while|switch|return|else).*");
            if (opens) {
                from = i;
                indent = m.group(1);
            } else if (from >= 0 && lines[i].equals(indent + "}")) {
                isSo("lines " + from + " to " + i + " are not too many", i - from <= 60);
                from = -1;
            }
            isSo("line " + (i + 1) + " is not too long", lines[i].length() <= 100);
        }
    }
}
