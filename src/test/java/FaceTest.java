import java.io.IOException;
import java.lang.reflect.Field;
import java.lang.reflect.Method;
import java.lang.reflect.Modifier;
import java.nio.file.Files;
import java.nio.file.Path;
import java.util.Arrays;
import java.util.Set;
import java.util.TreeSet;
import java.util.regex.Matcher;
import java.util.regex.Pattern;

/** The public face of the document, and those rules of LANGUAGE.md that a program can look at. Run in the checkout. */
public final class FaceTest {
    private static final Path SOURCE = Path.of("src/main/java/ServiceGame.java");
    private static final String METHODS = "about(int,int,int) alike(int,int) board(int,int) cell(int,int,int) "
            + "check(int,int,int,int) count(int) feed(long,int) flag(int,int,int) gain(int) hand(int,int,int,int) "
            + "letter(int,int,int,int,int) patch(int,int) points(int,int) round() set(int,int) team() unpatch(int,int) "
            + "up(int,int,int)";

    public static void main(String[] args) throws IOException {
        constants();
        face();
        classesInside();
        words(withoutComments(Files.readString(SOURCE)));
        Due.close();
    }

    private static void constants() {
        Due.is("NONE", ServiceGame.NONE, -1);
        Due.is("BAD", ServiceGame.BAD, -2);
        Due.is("STATE", ServiceGame.STATE, -3);
        Due.is("FULL", ServiceGame.FULL, -4);
    }

    private static void face() {
        Class<?> face = ServiceGame.class;
        Due.is("modifiers", face.getModifiers(), Modifier.PUBLIC | Modifier.FINAL);
        Due.is("constructors", face.getDeclaredConstructors().length, 1);
        Due.is("public constructors", face.getConstructors().length, 1);
        Set<String> methods = new TreeSet<>();
        for (Method m : face.getDeclaredMethods()) {
            if (!Modifier.isPrivate(m.getModifiers()) && !m.isSynthetic()) {
                Due.same("answer of " + m.getName(), m.getReturnType().getName(), "int");
                methods.add(m.getName() + Arrays.toString(m.getParameterTypes()).replace(" ", "")
                        .replace('[', '(').replace(']', ')'));
            }
        }
        Due.same("methods", String.join(" ", methods), METHODS);
        Set<String> fields = new TreeSet<>();
        for (Field f : face.getDeclaredFields()) {
            if (!Modifier.isPrivate(f.getModifiers())) {
                fields.add(Modifier.toString(f.getModifiers()) + " " + f.getType() + " " + f.getName());
            }
        }
        String constant = "public static final int ";
        Due.same("fields", String.join(", ", fields),
                constant + "BAD, " + constant + "FULL, " + constant + "NONE, " + constant + "STATE");
    }

    private static void classesInside() {
        Set<String> publicNames = new TreeSet<>();
        for (Method m : ServiceGame.class.getMethods()) {
            publicNames.add(m.getName());
        }
        oneClass(ServiceGame.class, publicNames);
        Due.is("at most twelve classes", ServiceGame.class.getDeclaredClasses().length <= 11 ? 1 : 0, 1);
        for (Class<?> inside : ServiceGame.class.getDeclaredClasses()) {
            Due.is(inside + " is static", Modifier.isStatic(inside.getModifiers()) ? 1 : 0, 1);
            Due.is(inside + " is not public", Modifier.isPublic(inside.getModifiers()) ? 1 : 0, 0);
            oneClass(inside, publicNames);
        }
    }

    private static void oneClass(Class<?> c, Set<String> publicNames) {
        int fields = 0;
        for (Field f : c.getDeclaredFields()) {
            boolean isStatic = Modifier.isStatic(f.getModifiers());
            fields += isStatic ? 0 : 1;
            Due.is(f + " is no static that changes", isStatic && !Modifier.isFinal(f.getModifiers()) ? 1 : 0, 0);
        }
        Due.is(c + " has at most twenty fields", fields <= 20 ? 1 : 0, 1);
        for (Method m : c.getDeclaredMethods()) {
            boolean hidden = Modifier.isPrivate(m.getModifiers()) && publicNames.contains(m.getName());
            Due.is(m + " bears the name of a public one", hidden ? 1 : 0, 0);
            Due.is(m + " has at most seven parameters", m.getParameterCount() <= 7 ? 1 : 0, 1);
        }
    }

    private static String withoutComments(String source) {
        return source.replaceAll("(?s)/\\*.*?\\*/", " ").replaceAll("//[^\n]*", " ");
    }

    private static void words(String code) {
        String[] outside = {"\\bthrow\\b", "\\bthrows\\b", "\\btry\\b", "\\bcatch\\b", "\\bfinally\\b", "\\bsynchronized\\b",
            "\\bassert\\b", "->", "::", "\\bpackage\\b", "\\bprotected\\b", "\\bstatic\\s*\\{", "Exact\\b", "\\bThread\\b",
            "\\bRandom\\b", "\\bSystem\\.(?!arraycopy\\b)", "\\bimport (?!java\\.util\\.(ArrayList|List|Arrays);)",
            "\\bhashCode\\b", "\\btoString\\b", "\\bequals\\b", "[^\\x00-\\x7f]"};
        for (String word : outside) {
            Matcher m = Pattern.compile(word).matcher(code);
            Due.is("the source has " + word, m.find() ? 1 : 0, 0);
        }
    }
}
