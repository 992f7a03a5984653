import java.io.IOException;
import java.lang.reflect.Field;
import java.lang.reflect.Modifier;
import java.nio.file.Files;
import java.nio.file.Path;
import java.util.regex.Matcher;
import java.util.regex.Pattern;

/** The rules of LANGUAGE.md that a look at the source can tell. Run in the project's folder. */
public final class LanguageTest {
    private static final String[] FORBIDDEN = {
        "\\b(throw|throws|try|catch|finally|synchronized|assert|volatile|native|protected)\\b", "->", "::",
        "Exact\\(", "\\bSystem\\.(?!arraycopy)", "\\b(Object|Thread|Random|Runtime|Class)\\b",
        "\\b(hashCode|equals|toString)\\(", "static \\{", "\\[\\]\\[\\]\\[\\]", "\\bprintln\\b"};
    private static final int MOST_METHOD_LINES = 60;
    private static final int MOST_PARAMETERS = 7;
    private static final int MOST_CLASSES = 12;
    private static final int MOST_FIELDS = 20;

    private final Check check = new Check();
    private final String code;

    private LanguageTest(String source) {
        code = source.replaceAll("(?s)/\\*.*?\\*/", "").replaceAll("//[^\n]*", "").replaceAll("\"[^\"\n]*\"", "\"\"");
    }

    public static void main(String[] args) throws IOException {
        String source = Files.readString(Path.of("src/main/java/WhiteKnights.java"));
        LanguageTest test = new LanguageTest(source);
        test.check.due("source holds signs 1 to 127 alone", source.chars().allMatch(c -> c > 0 && c < 128));
        test.forbiddenWords();
        test.imports();
        test.staticFields();
        test.methods();
        test.fields(WhiteKnights.class);
        for (Class<?> inside : WhiteKnights.class.getDeclaredClasses()) test.fields(inside);
        test.check.due("classes", test.found("\\b(class|interface|enum|record) [A-Z]") <= MOST_CLASSES);
        test.check.end();
    }

    private int found(String pattern) {
        return (int) Pattern.compile(pattern).matcher(code).results().count();
    }

    private void forbiddenWords() {
        for (String word : FORBIDDEN) check.due("uses of " + word, found(word), 0);
        check.due("package lines", found("(?m)^package "), 0);
    }

    private void imports() {
        check.due("imports but Arrays, ArrayList, List", found("import (?!java\\.util\\.(Arrays|ArrayList|List);)"), 0);
    }

    private void staticFields() {
        check.due("static fields that are not final", found("(?m)^\\s+(private )?static (?!final)[^(]*[=;]"), 0);
        check.due("static arrays not written out", found("static final int\\[\\] \\w+ = (?!\\{)"), 0);
    }

    private void fields(Class<?> type) {
        int own = 0;
        for (Field field : type.getDeclaredFields()) {
            if (!Modifier.isStatic(field.getModifiers())) own++;
            else check.due(field + " is final", Modifier.isFinal(field.getModifiers()));
        }
        check.due(type + " has " + own + " fields", own <= MOST_FIELDS);
    }

    private void methods() {
        Matcher head = Pattern.compile("(?m)^( +)[\\w \\[\\]]+\\(([^()]*)\\) \\{$").matcher(code);
        int seen = 0;
        while (head.find()) {
            seen++;
            String end = "\n" + head.group(1) + "}";
            int to = code.indexOf(end, head.end());
            long lines = code.substring(head.start(), to).lines().count();
            check.due(head.group() + " has " + lines + " lines", lines <= MOST_METHOD_LINES);
            check.due(head.group() + ": parameters", head.group(2).split(",").length <= MOST_PARAMETERS);
        }
        check.due("methods were found", seen > 28);
    }
}
