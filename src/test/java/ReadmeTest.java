import java.io.IOException;
import java.lang.reflect.Method;
import java.nio.file.Files;
import java.nio.file.Path;
import java.util.regex.Matcher;
import java.util.regex.Pattern;

/** Plays the game that README.md shows: each call there must answer the number behind it. Run in the checkout. */
public final class ReadmeTest {
    private static final Path README = Path.of("README.md");
    private static final Pattern BLOCK = Pattern.compile("```java\n(.*?)```", Pattern.DOTALL);
    private static final Pattern CALL = Pattern.compile("game\\.(\\w+)\\(([^)]*)\\); *// (-?\\d+).*");

    public static void main(String[] args) throws IOException, ReflectiveOperationException {
        String text = Files.readString(README);
        Matcher block = BLOCK.matcher(text);
        Due.is("README.md has an example", block.find() ? 1 : 0, 1);
        String[] lines = block.group(1).split("\n");
        Due.same("the first line", lines[0], "ServiceGame game = new ServiceGame();");
        ServiceGame game = new ServiceGame();
        for (int i = 1; i < lines.length; i++) {
            play(game, lines[i]);
        }
        everyCallIsTold(text);
        Due.close();
    }

    private static void play(ServiceGame game, String line) throws ReflectiveOperationException {
        Matcher call = CALL.matcher(line);
        boolean isCall = call.matches();
        Due.is("a call with its answer: " + line, isCall ? 1 : 0, 1);
        if (isCall) {
            Due.is(line, answer(game, call.group(1), call.group(2)), Integer.parseInt(call.group(3)));
        }
    }

    private static int answer(ServiceGame game, String name, String arguments) throws ReflectiveOperationException {
        String[] texts = arguments.isEmpty() ? new String[0] : arguments.split(", *");
        for (Method m : ServiceGame.class.getDeclaredMethods()) {
            if (m.getName().equals(name) && m.getParameterCount() == texts.length) {
                Object[] values = new Object[texts.length];
                for (int i = 0; i < texts.length; i++) {
                    long value = Long.decode(texts[i].replaceAll("L$", ""));
                    values[i] = m.getParameterTypes()[i] == long.class ? (Object) value : (Object) (int) value;
                }
                return (int) m.invoke(game, values);
            }
        }
        throw new NoSuchMethodException(name + "(" + arguments + ")");
    }

    private static void everyCallIsTold(String text) {
        for (String name : "team feed patch unpatch cell about set letter round up check flag hand points board gain alike count"
                .split(" ")) {
            Due.is("README.md's table has " + name, text.contains("| `" + name + "(") ? 1 : 0, 1);
        }
    }
}
