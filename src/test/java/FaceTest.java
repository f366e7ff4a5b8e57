import java.io.IOException;
import java.lang.reflect.Constructor;
import java.lang.reflect.Field;
import java.lang.reflect.Method;
import java.lang.reflect.Modifier;
import java.nio.file.Files;
import java.nio.file.Path;
import java.util.ArrayList;
import java.util.Arrays;
import java.util.List;
import java.util.Set;
import java.util.TreeSet;
import java.util.regex.Matcher;
import java.util.regex.Pattern;

/** The class has the face that stands in the document and nothing else, and keeps to LANGUAGE.md's plainer rules. */
public final class FaceTest {
    private static final Checks checks = new Checks();
    private static final Path SOURCE = Path.of("src/main/java/Degreewall.java");
    private static final Path DOCUMENT = Path.of("../shared/DOC.md");

    private static final int MOST_CLASSES = 12;
    private static final int MOST_FIELDS = 20;
    private static final int MOST_PARAMETERS = 7;
    private static final int MOST_LINES_OF_A_METHOD = 60;

    public static void main(String[] args) throws IOException {
        String source = Files.readString(SOURCE);
        List<String> face = faceOfDocument();
        publicFace(face);
        signaturesAreWritten(face, source);
        otherMembersArePrivate();
        classesInsideAreSmall();
        String bare = withoutCommentsAndTexts(source);
        textKeepsToTheLanguage(source, bare);
        libraryIsAllowed(bare);
        roomIsMadeOnce(bare);
        methodsAreShort(source);
        checks.end();
    }

    /** The methods of the face as the document writes them, without "public" and the sign behind them. */
    private static List<String> faceOfDocument() throws IOException {
        List<String> face = new ArrayList<>();
        for (String line : Files.readAllLines(DOCUMENT)) {
            if (line.startsWith("    public ") && line.endsWith(";")) {
                face.add(line.substring("    public ".length(), line.length() - 1));
            }
        }
        checks.same("lines of the face in the document", String.valueOf(face.size()), "28");
        checks.same("the first one is the constructor", String.valueOf(face.remove("Degreewall()")), "true");
        return face;
    }

    private static void publicFace(List<String> face) {
        int form = Degreewall.class.getModifiers();
        checks.same("public final class", String.valueOf(Modifier.isPublic(form) && Modifier.isFinal(form)), "true");
        Constructor<?>[] made = Degreewall.class.getDeclaredConstructors();
        checks.same("constructors", Arrays.toString(made), "[public Degreewall()]");
        Set<String> due = new TreeSet<>();
        for (String method : face) {
            due.add(method.replaceAll("(int|boolean) \\w+([,)])", "$1$2"));
        }
        Set<String> names = new TreeSet<>();
        for (Method method : Degreewall.class.getDeclaredMethods()) {
            if (Modifier.isPublic(method.getModifiers())) {
                names.add(written(method));
            }
        }
        checks.same("public methods", names.toString(), due.toString());
    }

    private static String written(Method method) {
        String name = method.getReturnType().getSimpleName() + " " + method.getName();
        String thrown = listed(method.getExceptionTypes());
        return name + "(" + listed(method.getParameterTypes()) + ")" + (thrown.isEmpty() ? "" : " throws " + thrown);
    }

    private static String listed(Class<?>[] types) {
        StringBuilder text = new StringBuilder();
        for (Class<?> type : types) {
            text.append(text.length() == 0 ? "" : ", ").append(type.getSimpleName());
        }
        return text.toString();
    }

    /** The names of the parameters, too, are those of the document. */
    private static void signaturesAreWritten(List<String> face, String source) {
        String inOneLine = source.replaceAll("\\s+", " ");
        for (String method : face) {
            checks.same("written: " + method, String.valueOf(inOneLine.contains("public " + method + " {")), "true");
        }
    }

    private static void otherMembersArePrivate() {
        Set<String> face = new TreeSet<>();
        for (Method method : Degreewall.class.getDeclaredMethods()) {
            if (Modifier.isPublic(method.getModifiers())) {
                face.add(method.getName());
            }
        }
        for (Method method : Degreewall.class.getDeclaredMethods()) {
            if (!Modifier.isPublic(method.getModifiers())) {
                checks.same(method + " is private", String.valueOf(Modifier.isPrivate(method.getModifiers())), "true");
                checks.same(method + " bears a public name", String.valueOf(face.contains(method.getName())), "false");
            }
        }
        for (Field field : Degreewall.class.getDeclaredFields()) {
            checks.same(field + " is private", String.valueOf(Modifier.isPrivate(field.getModifiers())), "true");
        }
    }

    private static void classesInsideAreSmall() {
        List<Class<?>> all = new ArrayList<>(List.of(Degreewall.class.getDeclaredClasses()));
        for (Class<?> inside : all) {
            int form = inside.getModifiers();
            checks.same(inside + " is static", String.valueOf(Modifier.isStatic(form)), "true");
            checks.same(inside + " is private", String.valueOf(Modifier.isPrivate(form)), "true");
        }
        all.add(Degreewall.class);
        checks.same("few classes", String.valueOf(all.size() <= MOST_CLASSES), "true");
        List<Class<?>> constants = List.of(int.class, long.class, boolean.class, char.class, String.class);
        for (Class<?> each : all) {
            int fields = 0;
            for (Field field : each.getDeclaredFields()) {
                if (Modifier.isStatic(field.getModifiers())) {
                    boolean constant = Modifier.isFinal(field.getModifiers()) && constants.contains(field.getType());
                    checks.same(field + " is a constant", String.valueOf(constant), "true");
                } else {
                    fields++;
                }
            }
            checks.same(each + " has few fields", String.valueOf(fields <= MOST_FIELDS), "true");
            for (Method method : each.getDeclaredMethods()) {
                boolean few = method.getParameterCount() <= MOST_PARAMETERS;
                checks.same(method + " has few parameters", String.valueOf(few), "true");
            }
        }
    }

    private static String withoutCommentsAndTexts(String source) {
        String code = source.replaceAll("(?s)/\\*.*?\\*/", "").replaceAll("//[^\n]*", "");
        return code.replaceAll("\"[^\"\n]*\"", "\"\"");
    }

    private static void textKeepsToTheLanguage(String source, String bare) {
        for (String word : List.of("->", "::", "\\bimport\\b", "\\bpackage\\b", "\\btry\\b", "\\bcatch\\b",
                "\\bfinally\\b", "\\bsynchronized\\b", "\\bassert\\b", "\\bwhile\\b", "\\bprotected\\b",
                "\\bextends\\b", "\\bSystem\\b", "\"\" *\\+", "\\+ *\"\"", "static \\{", "Exact\\b",
                "\\bObject\\b", "\\bvar\\b", "\\bvolatile\\b", "\\bnative\\b", "\\binstanceof\\b", "@\\w")) {
            Matcher found = Pattern.compile(word).matcher(bare);
            checks.same("found " + word + " in the text", String.valueOf(found.find()), "false");
        }
        checks.same("signs 1 to 126 alone", String.valueOf(source.chars().allMatch(c -> c >= 1 && c <= 126)), "true");
        for (Matcher kinds = Pattern.compile("new (\\w+)Exception\\(").matcher(bare); kinds.find();) {
            boolean known = List.of("IllegalState", "IllegalArgument", "IndexOutOfBounds").contains(kinds.group(1));
            checks.same("throws " + kinds.group(1), String.valueOf(known), "true");
        }
    }

    /** Of the library the class takes these static functions alone, all of them in rule 4. */
    private static void libraryIsAllowed(String bare) {
        List<String> known = List.of("Math.min", "Math.max", "Integer.bitCount");
        for (Matcher used = Pattern.compile("\\b[A-Z][a-z]\\w*\\.\\w+").matcher(bare); used.find();) {
            checks.same(used.group() + " is known", String.valueOf(known.contains(used.group())), "true");
        }
    }

    /** What is made is made with the object, thrown, or the text of a row: no call makes an array. */
    private static void roomIsMadeOnce(String bare) {
        for (String line : bare.split("\n")) {
            if (line.contains("new ")) {
                boolean once = line.matches(" +private final \\S+ \\w+ = new .*");
                boolean thrown = line.matches(" +throw new \\w+Exception\\(\"\"\\);");
                boolean text = line.endsWith("StringBuilder text = new StringBuilder();");
                checks.same("made once: " + line.trim(), String.valueOf(once || thrown || text), "true");
            }
        }
    }

    /** A method ends at the first line that closes at the depth at which it opened. */
    private static void methodsAreShort(String source) {
        String[] lines = source.split("\n");
        int methods = 0;
        for (int first = 0; first < lines.length; first++) {
            String depth = lines[first].replaceAll("\\S.*", "");
            boolean opens = lines[first].matches(" {4,8}[\\w\\[\\]]+ .*\\) ?(throws [\\w, ]+)?\\{")
                    && !lines[first].matches(" +(if|for|switch|else|return)\\b.*");
            if (opens) {
                int last = first;
                for (int line = first; line < lines.length && !lines[line].equals(depth + "}"); line++) {
                    last = line;
                }
                methods++;
                boolean isShort = last - first <= MOST_LINES_OF_A_METHOD;
                checks.same("short: " + lines[first].trim(), String.valueOf(isShort), "true");
            }
        }
        checks.same("methods were found", String.valueOf(methods > 100), "true");
    }
}
