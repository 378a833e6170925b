import java.lang.reflect.Method;
import java.nio.file.Files;
import java.nio.file.Path;
import java.util.List;
import java.util.regex.Matcher;
import java.util.regex.Pattern;

/** The example of README.md, line by line: what it says that a call answers must be what it answers. */
public final class ReadmeTest {
    private static final Pattern CALL = Pattern.compile("x\\.(\\w+)\\(([^)]*)\\);\\s*(?://\\s*(?:(-?\\w+):)?.*)?");

    private static int wrong = 0;
    private static int asked = 0;

    private static int number(String text) {
        return text.startsWith("0x") ? Integer.parseUnsignedInt(text.substring(2), 16) : Integer.parseInt(text);
    }

    private static Method named(String name) {
        for (Method method : PartnerStack.class.getMethods()) {
            if (method.getName().equals(name)) {
                return method;
            }
        }
        throw new IllegalArgumentException("no method " + name);
    }

    private static void tryLine(String line, PartnerStack x) throws ReflectiveOperationException {
        Matcher call = CALL.matcher(line);
        if (!call.matches()) {
            wrong++;
            System.out.println("no call of x: " + line);
            return;
        }
        String[] words = call.group(2).split(", ");
        Object[] arguments = new Object[words.length];
        for (int i = 0; i < words.length; i++) {
            arguments[i] = number(words[i]);
        }
        Object got = named(call.group(1)).invoke(x, arguments);
        if (call.group(3) == null) {
            return;
        }
        asked++;
        int due = number(call.group(3));
        if (!Integer.valueOf(due).equals(got)) {
            wrong++;
            System.out.println(line + " answered " + got + ", due is " + due);
        }
    }

    public static void main(String[] args) throws Exception {
        List<String> lines = Files.readAllLines(Path.of("README.md"));
        int first = lines.indexOf("PartnerStack x = new PartnerStack();");
        PartnerStack x = new PartnerStack();
        for (int i = first + 1; first >= 0 && i < lines.size() && !lines.get(i).startsWith("```"); i++) {
            tryLine(lines.get(i), x);
        }
        if (asked < 10) {
            wrong++;
            System.out.println("the example asks for too little: " + asked);
        }
        System.out.println("the README: " + asked + " answers, " + wrong + " wrong");
        if (wrong > 0) {
            System.exit(1);
        }
    }
}
