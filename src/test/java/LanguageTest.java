import java.io.IOException;
import java.lang.reflect.Field;
import java.lang.reflect.Modifier;
import java.nio.charset.StandardCharsets;
import java.nio.file.Files;
import java.nio.file.Path;
import java.util.regex.Matcher;
import java.util.regex.Pattern;

/** What of ../shared/LANGUAGE.md can be seen in the program's text: rules 1 to 13, as far as words and counts go. */
public final class LanguageTest {
    private static final Path SOURCE = Path.of("src/main/java/PartnerStack.java");
    private static final int MOST_CLASSES = 12;
    private static final int MOST_LINES = 60;
    private static final int MOST_FIELDS = 20;
    private static int wrong = 0;

    private static void due(String what, boolean fine) {
        if (!fine) {
            wrong++;
            System.out.println("outside the language: " + what);
        }
    }

    /** Comments and what stands in texts are blanked, line ends stay. */
    private static String bare(String source) {
        Matcher m = Pattern.compile("/\\*.*?\\*/|//[^\\n]*|\"[^\"\\n]*\"", Pattern.DOTALL).matcher(source);
        return m.replaceAll(found -> found.group().startsWith("\"") ? "\"\"" : found.group().replaceAll("[^\\n]", ""));
    }

    private static int count(String text, String pattern) {
        int found = 0;
        for (Matcher m = Pattern.compile(pattern).matcher(text); m.find();) {
            found++;
        }
        return found;
    }

    private static void words(String text) {
        String[] none = {"\\bpackage\\b", "\\bimport\\b", "\\bprotected\\b", "->", "::", "\\btry\\b", "\\bcatch\\b", "\\bfinally\\b",
            "\\bsynchronized\\b", "\\bassert\\b", "\\bvolatile\\b", "\\bnative\\b", "\\bvar\\b", "static \\{", "Exact\\b", "\\bjava\\.",
            "\\bSystem\\.(?!arraycopy)", "\\bThread\\b", "\\bRandom\\b", "\\bObject\\b", "\\bClass\\b", "\\bhashCode\\b",
            "\\btoString\\b", "while \\(true\\)", "for \\(;;", "\\bdouble\\b", "\\bfloat\\b"};
        for (String pattern : none) {
            due(pattern, count(text, pattern) == 0);
        }
        int thrown = count(text, "\\bthrow\\b");
        due("throws of other classes", thrown == count(text, "throw new I(llegalArgument|ndexOutOfBounds)Exception\\(\"\"\\);"));
        due("a text joined by +", count(text, "\"\" \\+|\\+ \"\"") == 0);
        due("more public members than the face", count(text, "\\bpublic\\b") == 11);
        due("one class of the file", count(text, "(?m)^(public )?(final )?class ") == 1);
        due("too many classes", count(text, "\\b(class|record|enum|interface) \\w+") <= MOST_CLASSES);
        due("a loop without a counter", count(text, "\\b(while|do)\\b") == 0);
    }

    private static void lengths(String text) {
        String[] lines = text.split("\n");
        int from = -1;
        String close = "";
        for (int i = 0; i < lines.length; i++) {
            String line = lines[i];
            boolean opens = line.matches("    (    )?[^ ].*\\(.*\\).*\\{");
            if (from < 0 && opens) {
                from = i;
                close = line.substring(0, line.length() - line.stripLeading().length()) + "}";
            } else if (from >= 0 && line.equals(close)) {
                due("a method of " + (i - from + 1) + " lines: " + lines[from].strip(), i - from < MOST_LINES);
                from = -1;
            }
        }
        due("a method without an end", from < 0);
    }

    private static void fields(Class<?> c) {
        int own = 0;
        for (Field f : c.getDeclaredFields()) {
            own += Modifier.isStatic(f.getModifiers()) ? 0 : 1;
        }
        due(own + " fields in " + c, own <= MOST_FIELDS);
        for (Class<?> inside : c.getDeclaredClasses()) {
            fields(inside);
        }
    }

    public static void main(String[] args) throws IOException {
        String text = bare(Files.readString(SOURCE, StandardCharsets.UTF_8));
        words(text);
        lengths(text);
        fields(PartnerStack.class);
        System.out.println("the language: " + wrong + " wrong");
        System.exit(wrong == 0 ? 0 : 1);
    }
}
