import java.io.IOException;
import java.lang.reflect.Field;
import java.lang.reflect.Method;
import java.lang.reflect.Modifier;
import java.nio.file.Files;
import java.nio.file.Path;
import java.util.ArrayList;
import java.util.List;
import java.util.regex.Matcher;
import java.util.regex.Pattern;

/** Rules of ../shared/LANGUAGE.md that can be seen from the file or from the classes in it. */
public final class LanguageTest {
    private static final Path SOURCE = Path.of("src/main/java/SaltToLiars.java");
    /** Rules 2, 3, 4, 6, 12 and 13: what must not stand in it at all; the class needs no import and throws nothing. */
    private static final String[] NEVER = {"import", "package", "try", "catch", "throw", "finally", "synchronized", "assert",
        "volatile", "native", "equals", "hashCode", "toString", "instanceof", "System\\.(?!arraycopy)", "Exact", "Thread",
        "Random", "Optional", "HashMap", "Object", "Float", "Double", "var"};

    public static void main(String[] args) throws IOException {
        String code = withoutTexts(Files.readString(SOURCE));
        nothingForbidden(code);
        List<Class<?>> classes = new ArrayList<>();
        classes.add(SaltToLiars.class);
        classes.addAll(List.of(SaltToLiars.class.getDeclaredClasses()));
        fieldsOf(classes);
        methodsOf(classes);
        lengthsOf(code);
        nothingMadeByCalls(code);
        Check.finish();
    }

    /** Comments and constant texts may hold any word. */
    private static String withoutTexts(String source) {
        return source.replaceAll("(?s)/\\*.*?\\*/", "").replaceAll("//[^\n]*", "")
            .replaceAll("\"[^\"\n]*\"", "\"\"").replaceAll("'.'", "' '");
    }

    private static long found(String code, String pattern) {
        return Pattern.compile(pattern).matcher(code).results().count();
    }

    private static void nothingForbidden(String code) {
        for (String word : NEVER) {
            Check.sentence("rules 2, 3, 4, 6, 12, 13: no " + word);
            Check.due("how often", found(code, "\\b" + word + (word.endsWith(")") ? "" : "\\b")), 0);
        }
        Check.sentence("rule 2: no lambda, no method reference");
        Check.due("how often", found(code, "->|::"), 0);
        Check.sentence("rule 5: no static initialiser block");
        Check.due("how often", found(code, "\\bstatic\\s*\\{"), 0);
        Check.sentence("rule 10: texts are not joined by +");
        Check.due("how often", found(code, "\"\\s*\\+|\\+\\s*\""), 0);
        Check.sentence("rule 9: every loop counts against a bound");
        Check.due("loops without a counter", found(code, "\\b(while|do)\\b|for\\s*\\(\\s*;"), 0);
    }

    private static void fieldsOf(List<Class<?>> classes) {
        Check.sentence("rule 11: at most some twelve classes");
        Check.due("more than twelve", classes.size() > 12 ? classes.size() : 0, 0);
        for (Class<?> each : classes) {
            int own = 0;
            for (Field field : each.getDeclaredFields()) {
                if (Modifier.isStatic(field.getModifiers())) {
                    Check.sentence("rule 5: static fields are final constants of int, long, boolean, char or String");
                    boolean constant = Modifier.isFinal(field.getModifiers())
                        && (field.getType().isPrimitive() || field.getType() == String.class);
                    Check.due(each.getName() + "." + field.getName(), constant ? 1 : 0, 1);
                } else {
                    own++;
                }
            }
            Check.sentence("rule 11: a class has some twenty fields beside its constants");
            Check.due("fields of " + each.getName(), own > 20 ? own : 0, 0);
        }
    }

    private static void methodsOf(List<Class<?>> classes) {
        List<String> face = new ArrayList<>();
        for (Method method : SaltToLiars.class.getDeclaredMethods()) {
            if (Modifier.isPublic(method.getModifiers())) {
                face.add(method.getName());
            }
        }
        for (Class<?> each : classes) {
            for (Method method : each.getDeclaredMethods()) {
                String name = each.getName() + "." + method.getName();
                Check.sentence("rule 11: a method takes at most seven parameters");
                Check.due(name, method.getParameterCount() > 7 ? 1 : 0, 0);
                Check.sentence("rule 1: no private method bears the name of a public one");
                Check.due(name, Modifier.isPublic(method.getModifiers()) || !face.contains(method.getName()) ? 0 : 1, 0);
            }
        }
    }

    private static Matcher methodHeads(String code) {
        return Pattern.compile("(?m)^( +)[\\w\\[\\] ]*\\b(\\w+)\\([^;{}]*\\) \\{$").matcher(code);
    }

    private static void lengthsOf(String code) {
        Check.sentence("rule 11: methods stay short (some sixty lines)");
        Matcher head = methodHeads(code);
        int methods = 0;
        while (head.find()) {
            int end = code.indexOf("\n" + head.group(1) + "}", head.end());
            long lines = found(code.substring(head.start(), end), "\n");
            Check.due("lines of " + head.group().trim(), lines > 60 ? lines : 0, 0);
            methods++;
        }
        Check.due("methods were found", methods > 80 ? 1 : 0, 1);
    }

    /** What a run makes is counted, so that every row is made with the object, and no call makes one. */
    private static void nothingMadeByCalls(String code) {
        Check.sentence("rule 12: what a run makes is counted: keep it small");
        Matcher head = methodHeads(code);
        while (head.find()) {
            boolean constructor = Character.isUpperCase(head.group(2).charAt(0));
            int end = code.indexOf("\n" + head.group(1) + "}", head.end());
            long made = found(code.substring(head.start(), end), "\\bnew\\b|\\.clone\\(|copyOf");
            Check.due("made by " + head.group().trim(), constructor ? 0 : made, 0);
        }
    }
}
