import java.io.IOException;
import java.lang.reflect.Constructor;
import java.lang.reflect.Field;
import java.lang.reflect.Method;
import java.lang.reflect.Modifier;
import java.nio.file.Files;
import java.nio.file.Path;
import java.util.ArrayList;
import java.util.Arrays;
import java.util.List;
import java.util.Random;
import java.util.Set;
import java.util.TreeSet;
import java.util.regex.MatchResult;
import java.util.regex.Pattern;

/** The face is the document's and no more, and no call throws, whatever it is given. */
public final class FaceTest {
    private static final String[] FACE = {
        "int write(int)", "int wipe()", "int fault()", "int lay()", "int guest(int,int)", "int thing(int,int)",
        "int weight(int,int)", "int say(int,int,boolean)", "int sayBoth(int,int,boolean,int,int,boolean)",
        "int hush()", "int undo()", "int went(int,int)", "int fits(int)", "int sure(boolean)", "int laws()",
        "int ask(int)", "int fewest(int,int)", "int story(int,int)", "int rests(int,int,int,int,int)",
        "int tell(int,boolean)", "int forget()", "long believe(int)", "int trail()", "int dinner(int,int,int)",
        "int keep()", "int back()", "int count(int)"};
    private static final int[] NUMBERS = {0, 1, 2, 3, 4, 5, 6, 7, 8, 9, 10, 31, 32, 60, 63, 64, -1, -2,
        Integer.MIN_VALUE, Integer.MAX_VALUE, 'g', 't', 'l', 'a', ';', ',', '0', '9'};
    private static int wrong = 0;

    private static void must(boolean holds, String what) {
        if (!holds) {
            wrong++;
            System.out.println("not so: " + what);
        }
    }

    public static void main(String[] args) throws IOException {
        face();
        sections(Files.readString(Path.of("../shared/DOC.md")), Files.readString(Path.of("src/main/java/SaltToLiars.java")));
        nothingThrown();
        System.out.println(wrong == 0 ? "the face is as told" : wrong + " wrong");
        if (wrong != 0) {
            System.exit(1);
        }
    }

    private static String told(Method method) {
        StringBuilder text = new StringBuilder(method.getReturnType() + " " + method.getName() + "(");
        String parted = "";
        for (Class<?> type : method.getParameterTypes()) {
            text.append(parted).append(type);
            parted = ",";
        }
        return text.append(")").toString();
    }

    private static void face() {
        must(Modifier.isFinal(SaltToLiars.class.getModifiers()), "the class is final");
        must(Modifier.isPublic(SaltToLiars.class.getModifiers()), "the class is public");
        Set<String> methods = new TreeSet<>();
        Set<String> names = new TreeSet<>();
        for (Method method : SaltToLiars.class.getDeclaredMethods()) {
            if (Modifier.isPublic(method.getModifiers())) {
                methods.add(told(method));
                names.add(method.getName());
                must(!Modifier.isStatic(method.getModifiers()), method.getName() + " is no static one");
            } else {
                must(Modifier.isPrivate(method.getModifiers()), method.getName() + " is private");
            }
        }
        must(methods.equals(new TreeSet<>(Arrays.asList(FACE))), "the methods are the document's: " + methods);
        for (Method method : SaltToLiars.class.getDeclaredMethods()) {
            must(Modifier.isPublic(method.getModifiers()) || !names.contains(method.getName()),
                "no private method is called " + method.getName());
        }
        Set<String> constants = new TreeSet<>();
        for (Field field : SaltToLiars.class.getDeclaredFields()) {
            if (!Modifier.isPrivate(field.getModifiers())) {
                constants.add(Modifier.toString(field.getModifiers()) + " " + field.getType() + " " + field.getName());
            }
        }
        must(constants.equals(new TreeSet<>(Arrays.asList("public static final int BAD", "public static final int NO",
            "public static final int FULL", "public static final int NONE"))), "the constants: " + constants);
        Constructor<?>[] constructors = SaltToLiars.class.getDeclaredConstructors();
        must(constructors.length == 1 && constructors[0].getParameterCount() == 0
            && Modifier.isPublic(constructors[0].getModifiers()), "one constructor");
        for (Class<?> inside : SaltToLiars.class.getDeclaredClasses()) {
            must(Modifier.isStatic(inside.getModifiers()) && !Modifier.isPublic(inside.getModifiers()),
                inside.getName() + " is static and not public");
        }
        must(SaltToLiars.class.getDeclaredClasses().length < 12, "twelve classes at most");
    }

    /** "Ahead of the calls .. the interface says: ---- .." */
    private static void sections(String document, String source) {
        List<String> told = new ArrayList<>();
        for (MatchResult section : found(document, "(?m)^Ahead of the calls (.*) the interface says: (---- .*)\\.$")) {
            told.add(section.group(2));
            told.addAll(List.of(section.group(1).replace("`", "").split(", ")));
        }
        List<String> there = new ArrayList<>();
        for (MatchResult row : found(source, "(?m)^    (?:// (----.*)|public (?:int|long) (\\w+)\\(.*)$")) {
            there.add(row.group(1) != null ? row.group(1) : row.group(2));
        }
        must(told.size() == 5 + FACE.length, "five sections: " + told);
        must(there.equals(told), "calls stand behind what the interface says ahead of them: " + there);
    }

    private static List<MatchResult> found(String text, String pattern) {
        return Pattern.compile(pattern).matcher(text).results().toList();
    }

    private static void nothingThrown() {
        Random random = new Random(7);
        Method[] methods = Arrays.stream(SaltToLiars.class.getDeclaredMethods())
            .filter(method -> Modifier.isPublic(method.getModifiers()))
            .sorted((a, b) -> a.getName().compareTo(b.getName())).toArray(Method[]::new);
        for (int run = 0; run < 400; run++) {
            SaltToLiars x = new SaltToLiars();
            for (int call = 0; call < 512; call++) {
                Method method = methods[random.nextInt(methods.length)];
                Object[] given = new Object[method.getParameterCount()];
                for (int k = 0; k < given.length; k++) {
                    given[k] = method.getParameterTypes()[k] == boolean.class
                        ? (Object) random.nextBoolean() : (Object) NUMBERS[random.nextInt(NUMBERS.length)];
                }
                try {
                    method.invoke(x, given);
                } catch (ReflectiveOperationException thrown) {
                    must(false, told(method) + " by " + Arrays.toString(given) + " threw " + thrown.getCause());
                }
            }
        }
    }
}
