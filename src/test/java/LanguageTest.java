import java.lang.reflect.Constructor;
import java.lang.reflect.Field;
import java.lang.reflect.Method;
import java.lang.reflect.Modifier;
import java.nio.file.Files;
import java.nio.file.Path;
import java.util.ArrayList;
import java.util.Arrays;
import java.util.List;
import java.util.TreeSet;
import java.util.regex.Matcher;
import java.util.regex.Pattern;

/** The rules of LANGUAGE.md that can be seen from the file and from the classes that it gives. */
public final class LanguageTest {
    private static final String FACE = "int BAD, int FULL, int NOT, int STATE, int VOID, int act(int int int),"
        + " int back(), int bars(int int int), int body(int), int clash(int int), int count(int),"
        + " int falseOnes(int), int feed(int), int image(), int judge(int), int keep(int int), int law(int int),"
        + " int laws(int int int), int meant(int int), int mend(int int int), int moved(int int int), int never(),"
        + " int of(int int), int put(int int long), int redo(), int rings(), int row(int int int),"
        + " int shift(int int int int int), int speaks(int int), int taken(int int), int trace(int),"
        + " int under(int int), int undo(), int unlike(int int), int verdict(int int), int write(int int int),"
        + " long element(int int)";

    private static int wrong = 0;

    public static void main(String[] args) throws Exception {
        theFace();
        membersOfAllClasses();
        wordsOfTheFile(Files.readString(Path.of("src/main/java/OldestLaw.java")));
        System.out.println(wrong == 0 ? "the rules are kept" : wrong + " rules are not kept");
        if (wrong != 0) {
            System.exit(1);
        }
    }

    private static void must(int rule, boolean so, String what) {
        if (!so) {
            wrong++;
            System.out.println("rule " + rule + ": " + what);
        }
    }

    private static void theFace() {
        TreeSet<String> face = new TreeSet<>();
        for (Field field : OldestLaw.class.getDeclaredFields()) {
            if (!Modifier.isPrivate(field.getModifiers())) {
                must(1, Modifier.isPublic(field.getModifiers()), field.getName() + " is neither public nor private");
                face.add(field.getType() + " " + field.getName());
            }
        }
        for (Method method : OldestLaw.class.getDeclaredMethods()) {
            if (!Modifier.isPrivate(method.getModifiers())) {
                must(1, Modifier.isPublic(method.getModifiers()), method.getName() + " is neither public nor private");
                List<String> types = new ArrayList<>();
                for (Class<?> type : method.getParameterTypes()) {
                    types.add(type.toString());
                }
                face.add(method.getReturnType() + " " + method.getName() + "(" + String.join(" ", types) + ")");
            }
        }
        must(1, String.join(", ", face).equals(FACE), "the face is " + String.join(", ", face));
        Constructor<?>[] made = OldestLaw.class.getDeclaredConstructors();
        must(1, made.length == 1 && Modifier.isPublic(made[0].getModifiers()) && made[0].getParameterCount() == 0,
            "one public constructor without parameters");
        must(1, Modifier.isFinal(OldestLaw.class.getModifiers()), "the class is final");
    }

    private static void membersOfAllClasses() {
        List<Class<?>> classes = new ArrayList<>(Arrays.asList(OldestLaw.class.getDeclaredClasses()));
        must(11, classes.size() < 12, classes.size() + " classes inside");
        classes.add(OldestLaw.class);
        for (Class<?> one : classes) {
            int modifiers = one.getModifiers();
            must(1, one == OldestLaw.class || Modifier.isStatic(modifiers) && !Modifier.isPublic(modifiers)
                && !Modifier.isProtected(modifiers), one + " is static and no more than package-visible");
            int fields = 0;
            for (Field field : one.getDeclaredFields()) {
                boolean isStatic = Modifier.isStatic(field.getModifiers());
                must(5, !isStatic || Modifier.isFinal(field.getModifiers()), field + " is final");
                fields += isStatic ? 0 : 1;
            }
            must(11, fields <= 20, one + " has " + fields + " fields");
            for (Method method : one.getDeclaredMethods()) {
                must(1, !Modifier.isPrivate(method.getModifiers()) || !FACE.contains(" " + method.getName() + "("),
                    method + " bears the name of a public one");
                must(11, method.getParameterCount() <= 7, method + " takes too many parameters");
            }
        }
    }

    private static void wordsOfTheFile(String file) {
        String code = file.replaceAll("(?s)/\\*.*?\\*/", "").replaceAll("//.*", "");
        String[] words = {"throw", "throws", "try", "catch", "finally", "synchronized", "assert", "import", "package",
            "var", "equals", "hashCode", "toString", "instanceof", "NaN", "System\\.(?!arraycopy\\()"};
        for (String word : words) {
            must(6, !Pattern.compile("\\b" + word + "(?!\\w)").matcher(code).find(), "the file says " + word);
        }
        must(2, !code.contains("->") && !code.contains("::"), "no lambda, no method reference");
        must(5, !Pattern.compile("static\\s*\\{").matcher(code).find(), "no static initialiser block");
        must(10, !code.contains("\""), "no text");
        Matcher library = Pattern.compile("\\b([A-Z][a-z]+)\\.([a-z]\\w*)\\(").matcher(code);
        while (library.find()) {
            String call = library.group(1) + "." + library.group(2);
            boolean own = file.contains("class " + library.group(1) + " {");
            must(4, own || List.of("System.arraycopy", "Integer.bitCount", "Long.bitCount", "Math.min", "Math.max")
                .contains(call), call + " is of the library");
        }
        int last = -1;
        String[] lines = file.split("\n");
        for (int i = 0; i < lines.length; i++) {
            if (lines[i].matches("    (    )?[a-z].*\\) \\{")) {
                last = i;
            }
            if (lines[i].matches("    (    )?\\}") && last >= 0) {
                must(11, i - last <= 60, "the method of line " + (last + 1) + " is long");
                last = -1;
            }
            must(3, lines[i].chars().allMatch(c -> c < 128), "line " + (i + 1) + " has other signs");
        }
    }
}
