import java.io.IOException;
import java.lang.reflect.Constructor;
import java.lang.reflect.Field;
import java.lang.reflect.Method;
import java.lang.reflect.Modifier;
import java.nio.file.Files;
import java.nio.file.Path;
import java.util.Arrays;
import java.util.SortedSet;
import java.util.TreeSet;
import java.util.regex.Pattern;

/** The public face as the document writes it, and what LANGUAGE.md rules out of the file. */
public final class FaceTest {
    private static final String[] FACE = {
        "int draft(int,int)",
        "boolean line(int,int,int)",
        "int propose(int) throws IllegalArgumentException,IllegalStateException",
        "int silent(int,int) throws IllegalArgumentException,IllegalStateException",
        "int resend(int) throws IllegalArgumentException,IllegalStateException",
        "int spread(int) throws IllegalArgumentException,IllegalStateException",
        "int letters()",
        "int letter(int,int) throws IndexOutOfBoundsException",
        "int deliver(int) throws IndexOutOfBoundsException",
        "boolean lose(int)",
        "boolean twin(int)",
        "boolean crash(int)",
        "boolean restart(int)",
        "boolean quorum(int)",
        "int least(int)",
        "int asked(int,boolean)",
        "int run(int,int)",
        "int promised(int)",
        "int accepted(int,int)",
        "int decided(int,int)",
        "int complete(int)",
        "int rate(int,int,int,int)",
    };

    private static final String[] RULED_OUT = {
        "->", "::", "\\btry\\b", "\\bcatch\\b", "\\bfinally\\b", "\\bsynchronized\\b", "\\bassert\\b",
        "Exact\\b", "\\bpackage\\b", "\\bSystem\\.(?!arraycopy\\b)", "\\bThread\\b", "\\bRandom\\b", "\\bObject\\b",
        "\\bprotected\\b", "\\bnative\\b", "\\bstatic \\{", "@",
    };

    public static void main(String[] args) throws IOException {
        publicMethods();
        noOtherMembers();
        sourceKeepsToTheLanguage();
        Due.end();
    }

    private static void publicMethods() {
        SortedSet<String> found = new TreeSet<>();
        SortedSet<String> inside = new TreeSet<>();
        for (Method m : TripleHouse.class.getDeclaredMethods()) {
            if (Modifier.isPublic(m.getModifiers())) {
                found.add(written(m));
                Due.no("static " + m, Modifier.isStatic(m.getModifiers()));
            } else {
                inside.add(m.getName());
            }
        }
        SortedSet<String> want = new TreeSet<>(Arrays.asList(FACE));
        Due.yes("the face is " + found, found.equals(want));
        for (Method m : TripleHouse.class.getDeclaredMethods()) {
            if (Modifier.isPublic(m.getModifiers())) {
                Due.no("a private method bears the name " + m.getName(), inside.contains(m.getName()));
            }
        }
    }

    private static String written(Method m) {
        StringBuilder b = new StringBuilder();
        b.append(m.getReturnType().getSimpleName()).append(' ').append(m.getName()).append('(');
        b.append(names(m.getParameterTypes())).append(')');
        if (m.getExceptionTypes().length > 0) {
            b.append(" throws ").append(names(m.getExceptionTypes()));
        }
        return b.toString();
    }

    private static String names(Class<?>[] classes) {
        StringBuilder b = new StringBuilder();
        for (Class<?> c : classes) {
            b.append(b.length() == 0 ? "" : ",").append(c.getSimpleName());
        }
        return b.toString();
    }

    private static void noOtherMembers() {
        Due.is("public final", TripleHouse.class.getModifiers(), Modifier.PUBLIC | Modifier.FINAL);
        for (Method m : TripleHouse.class.getDeclaredMethods()) {
            Due.yes("public or private: " + m, (m.getModifiers() & (Modifier.PUBLIC | Modifier.PRIVATE)) != 0);
        }
        for (Field f : TripleHouse.class.getDeclaredFields()) {
            int m = f.getModifiers();
            boolean none = f.getName().equals("NONE");
            Due.is("modifiers of " + f, m & Modifier.PUBLIC, none ? Modifier.PUBLIC : 0);
            Due.yes("public or private: " + f, none || Modifier.isPrivate(m));
            Due.yes("static only if final: " + f, !Modifier.isStatic(m) || Modifier.isFinal(m));
        }
        Constructor<?>[] constructors = TripleHouse.class.getDeclaredConstructors();
        Due.is("constructors", constructors.length, 1);
        Due.is("of no parameters", constructors[0].getParameterCount(), 0);
        Due.yes("public", Modifier.isPublic(constructors[0].getModifiers()));
        Due.yes("at most twelve classes", TripleHouse.class.getDeclaredClasses().length <= 11);
        for (Class<?> c : TripleHouse.class.getDeclaredClasses()) {
            Due.yes("static " + c, Modifier.isStatic(c.getModifiers()));
        }
    }

    private static void sourceKeepsToTheLanguage() throws IOException {
        String source = Files.readString(Path.of("src/main/java/TripleHouse.java"));
        for (String word : RULED_OUT) {
            Due.no("ruled out: " + word, Pattern.compile(word).matcher(source).find());
        }
        for (String row : source.split("\n")) {
            if (row.startsWith("import ")) {
                Due.yes("import of " + row, row.equals("import java.util.Arrays;"));
            }
        }
        Due.yes("characters 0 to 255 alone", source.chars().allMatch(c -> c < 256));
    }
}
