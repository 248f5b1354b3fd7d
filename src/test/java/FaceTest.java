import java.io.IOException;
import java.lang.reflect.Field;
import java.lang.reflect.Member;
import java.lang.reflect.Method;
import java.lang.reflect.Modifier;
import java.nio.file.Files;
import java.nio.file.Path;
import java.util.ArrayList;
import java.util.Arrays;
import java.util.List;
import java.util.TreeSet;

/** The face is the document's and no more, and the source keeps out what LANGUAGE.md rules out by name. */
public final class FaceTest {
    private static final String[] FACE = {
        "int point(int,int,int,int) throws ArrayIndexOutOfBoundsException",
        "int bound(int,int) throws IllegalArgumentException",
        "long differing()",
        "int box(int,int) throws IndexOutOfBoundsException",
        "int word(int,int,int,int) throws ArrayIndexOutOfBoundsException,IllegalArgumentException,"
            + "UnsupportedOperationException",
        "int words(int,int) throws IndexOutOfBoundsException",
        "int size(int,int,int,int) throws ArrayIndexOutOfBoundsException,IllegalArgumentException",
        "int missing(int) throws IndexOutOfBoundsException",
        "int rule(int,int,boolean) throws IllegalArgumentException,UnsupportedOperationException",
        "int check()",
        "int fault(int,int) throws IndexOutOfBoundsException",
        "int approve(int,int,int) throws ArrayIndexOutOfBoundsException,IllegalArgumentException,"
            + "UnsupportedOperationException",
        "boolean approved(int) throws ArrayIndexOutOfBoundsException",
    };
    private static final String[] RULED_OUT = {"try", "catch", "finally", "import", "package", "synchronized", "assert",
        "static {", "->", "::", "new Object", "Exact(", "protected"};
    private static final Due due = new Due();

    public static void main(String[] args) throws IOException {
        theFaceIsTheDocuments();
        nothingElseIsVisible();
        theClassesInsideAreStatic();
        noNameIsUsedTwice();
        theSourceKeepsToTheLanguage();
        due.end();
    }

    private static void theFaceIsTheDocuments() {
        due.same("class", Modifier.toString(ProofCompare.class.getModifiers()), "public final");
        due.same("constructors", Arrays.toString(ProofCompare.class.getDeclaredConstructors()),
            "[public ProofCompare(int,int)]");
        TreeSet<String> methods = new TreeSet<>();
        for (Method m : ProofCompare.class.getDeclaredMethods()) {
            if (Modifier.isPublic(m.getModifiers())) {
                due.is(m.getName() + " is static", () -> Modifier.isStatic(m.getModifiers()) ? 1 : 0, 0);
                methods.add(signature(m));
            }
        }
        due.same("methods", methods.toString(), new TreeSet<>(Arrays.asList(FACE)).toString());
    }

    private static String signature(Method m) {
        String exceptions = names(m.getExceptionTypes());
        return m.getReturnType() + " " + m.getName() + "(" + names(m.getParameterTypes()) + ")"
            + (exceptions.isEmpty() ? "" : " throws " + exceptions);
    }

    private static String names(Class<?>[] types) {
        return String.join(",", Arrays.stream(types).map(Class::getSimpleName).toList());
    }

    private static void nothingElseIsVisible() {
        List<Member> members = new ArrayList<>(Arrays.asList(ProofCompare.class.getDeclaredFields()));
        for (Method m : ProofCompare.class.getDeclaredMethods()) {
            if (!Modifier.isPublic(m.getModifiers())) {
                members.add(m);
            }
        }
        for (Member m : members) {
            due.is(m.getName() + " is private", () -> Modifier.isPrivate(m.getModifiers()) ? 1 : 0, 1);
        }
    }

    private static void theClassesInsideAreStatic() {
        Class<?>[] inside = ProofCompare.class.getDeclaredClasses();
        due.is("at most eleven classes inside", () -> inside.length <= 11 ? 1 : 0, 1);
        for (Class<?> c : inside) {
            due.is(c.getName() + " is static", () -> Modifier.isStatic(c.getModifiers()) ? 1 : 0, 1);
            for (Field f : c.getDeclaredFields()) {
                boolean changing = Modifier.isStatic(f.getModifiers()) && !Modifier.isFinal(f.getModifiers());
                due.is(f.getName() + " is a changing static field", () -> changing ? 1 : 0, 0);
            }
        }
    }

    private static void noNameIsUsedTwice() {
        TreeSet<String> face = new TreeSet<>();
        List<Method> others = new ArrayList<>();
        for (Method m : ProofCompare.class.getDeclaredMethods()) {
            if (Modifier.isPublic(m.getModifiers())) {
                face.add(m.getName());
            } else {
                others.add(m);
            }
        }
        for (Class<?> c : ProofCompare.class.getDeclaredClasses()) {
            others.addAll(Arrays.asList(c.getDeclaredMethods()));
        }
        for (Method m : others) {
            due.is(m + " bears a name of the face", () -> face.contains(m.getName()) ? 1 : 0, 0);
        }
    }

    private static void theSourceKeepsToTheLanguage() throws IOException {
        String source = Files.readString(Path.of("src/main/java/ProofCompare.java"));
        String code = source.replaceAll("(?s)/\\*.*?\\*/", "").replaceAll("//[^\n]*", "")
            .replaceAll("\"[^\"\n]*\"", "");
        for (String word : RULED_OUT) {
            boolean plain = word.chars().allMatch(Character::isLetter);
            boolean there = plain ? code.matches("(?s).*\\b" + word + "\\b.*") : code.contains(word);
            due.is("the source has " + word, () -> there ? 1 : 0, 0);
        }
    }
}
