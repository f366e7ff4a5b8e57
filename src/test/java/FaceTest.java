import java.io.IOException;
import java.lang.reflect.Constructor;
import java.lang.reflect.Method;
import java.lang.reflect.Modifier;
import java.nio.file.Files;
import java.nio.file.Path;
import java.util.Arrays;
import java.util.List;
import java.util.Set;
import java.util.TreeSet;
import java.util.regex.Matcher;
import java.util.regex.Pattern;

/** The class has the face of the document and nothing else, and its text keeps to the plainer rules of LANGUAGE.md. */
public final class FaceTest {
    private static final Checks checks = new Checks();

    private static final List<String> FACE = List.of(
            "int source()", "int kin(int, int, boolean)", "int bar(int)", "int join(int, int)",
            "int permit(int, int, int)", "boolean revoke(int)", "int pass(int)", "int person(int)", "int asker()",
            "int least(int)", "int ask(int, int)", "boolean talk(int, int)", "int degree(int, int)",
            "int ofSource(int, int)", "int ofTable(int, int)", "int ofPermit(int, int)", "int ofAsker(int, int)",
            "int derived(int, int)", "int house(int)", "String row(int)", "int wouldJoin(int, int)",
            "int wouldGive(int, int)", "int wouldTalk(int, int)", "int chain(int, int)", "boolean isSound()",
            "int knock()", "long digest()");

    public static void main(String[] args) throws IOException {
        publicFace();
        otherMembersArePrivate();
        textKeepsToTheLanguage(Files.readString(Path.of("src/main/java/Degreewall.java")));
        checks.end();
    }

    private static void publicFace() {
        int form = Degreewall.class.getModifiers();
        checks.same("public final class", String.valueOf(Modifier.isPublic(form) && Modifier.isFinal(form)), "true");
        Constructor<?>[] made = Degreewall.class.getDeclaredConstructors();
        checks.same("constructors", Arrays.toString(made), "[public Degreewall()]");
        Set<String> names = new TreeSet<>();
        for (Method method : Degreewall.class.getDeclaredMethods()) {
            if (Modifier.isPublic(method.getModifiers())) {
                names.add(written(method));
            }
        }
        checks.same("public methods", names.toString(), new TreeSet<>(FACE).toString());
    }

    private static String written(Method method) {
        StringBuilder text = new StringBuilder(method.getReturnType().getSimpleName() + " " + method.getName() + "(");
        String comma = "";
        for (Class<?> type : method.getParameterTypes()) {
            text.append(comma).append(type.getSimpleName());
            comma = ", ";
        }
        return text.append(")").toString();
    }

    private static void otherMembersArePrivate() {
        Set<String> face = new TreeSet<>();
        for (String method : FACE) {
            face.add(method.substring(method.indexOf(' ') + 1, method.indexOf('(')));
        }
        for (Method method : Degreewall.class.getDeclaredMethods()) {
            if (!Modifier.isPublic(method.getModifiers())) {
                checks.same(method + " is private", String.valueOf(Modifier.isPrivate(method.getModifiers())), "true");
                checks.same(method + " bears a public name", String.valueOf(face.contains(method.getName())), "false");
            }
        }
        for (var field : Degreewall.class.getDeclaredFields()) {
            checks.same(field + " is private", String.valueOf(Modifier.isPrivate(field.getModifiers())), "true");
        }
    }

    private static void textKeepsToTheLanguage(String source) {
        String code = source.replaceAll("(?s)/\\*.*?\\*/", "").replaceAll("//[^\n]*", "");
        String bare = code.replaceAll("\"[^\"\n]*\"", "\"\"");
        for (String word : List.of("->", "::", "\\bimport\\b", "\\bpackage\\b", "\\btry\\b", "\\bcatch\\b",
                "\\bfinally\\b", "\\bsynchronized\\b", "\\bassert\\b", "\\bwhile\\b", "\\bprotected\\b",
                "\\bextends\\b", "\\bSystem\\b", "\"\" *\\+", "\\+ *\"\"", "static \\{", "Exact\\b")) {
            Matcher found = Pattern.compile(word).matcher(bare);
            checks.same("found " + word + " in the text", String.valueOf(found.find()), "false");
        }
        checks.same("signs 1 to 126 alone", String.valueOf(source.chars().allMatch(c -> c >= 1 && c <= 126)), "true");
        Matcher kinds = Pattern.compile("new (\\w+)Exception\\(").matcher(bare);
        while (kinds.find()) {
            boolean known = List.of("IllegalState", "IllegalArgument", "IndexOutOfBounds").contains(kinds.group(1));
            checks.same("throws " + kinds.group(1), String.valueOf(known), "true");
        }
    }
}
