import java.io.IOException;
import java.lang.reflect.Field;
import java.lang.reflect.Method;
import java.lang.reflect.Modifier;
import java.nio.file.Files;
import java.nio.file.Path;
import java.util.Set;
import java.util.TreeSet;
import java.util.regex.Matcher;
import java.util.regex.Pattern;

/** The public face, and those rules of LANGUAGE.md that can be seen from outside. */
public final class FaceTest {
    private static final String[] FACE = {"int feed int int int int int", "boolean end int", "int canal",
        "int fault int", "int has int", "int letter int int int", "int named int", "int pool int int",
        "int gate int int", "int row int int", "int outlet int int", "int order int int", "int opens int int",
        "int load int int", "int account int", "int event int int", "int rank int", "int alarm int int",
        "int alarms int int", "int flow int int int", "int missing int int", "int later int int",
        "int opening int int", "int when int int", "int lacks int int", "int least int", "int gain int int",
        "int best int int int", "int fits int int", "int see int", "int leaks int", "int tells int", "int steps int",
        "int chance int", "int ask int int int", "boolean cancel int", "boolean hand int int",
        "boolean set int int int", "boolean undo", "boolean seed int", "int status int"};

    private FaceTest() {
    }

    public static void main(String[] args) throws IOException {
        publicMembers();
        privateMembers();
        source();
        Check.finish();
    }

    private static String told(Method m) {
        StringBuilder text = new StringBuilder(m.getReturnType() + " " + m.getName());
        for (Class<?> p : m.getParameterTypes()) {
            text.append(' ').append(p);
        }
        return text.toString();
    }

    private static void publicMembers() {
        Set<String> want = new TreeSet<>(Set.of(FACE));
        Set<String> got = new TreeSet<>();
        for (Method m : CanalKeeper.class.getDeclaredMethods()) {
            if (!Modifier.isPrivate(m.getModifiers()) && !m.isSynthetic()) {
                got.add(told(m));
            }
        }
        Check.due("the face " + got, got.equals(want), true);
        Set<String> constants = new TreeSet<>();
        for (Field f : CanalKeeper.class.getDeclaredFields()) {
            if (!Modifier.isPrivate(f.getModifiers())) {
                constants.add(Modifier.toString(f.getModifiers()) + " " + f.getType() + " " + f.getName());
            }
        }
        Check.due("the constants " + constants, constants.equals(
            Set.of("public static final int NONE", "public static final int NOTHING")), true);
        Check.due("all constructors", CanalKeeper.class.getDeclaredConstructors().length, 1);
        Check.due("constructors", CanalKeeper.class.getConstructors().length, 1);
        Check.due("final", Modifier.isFinal(CanalKeeper.class.getModifiers()), true);
    }

    private static void privateMembers() {
        Set<String> names = new TreeSet<>();
        for (String line : FACE) {
            names.add(line.split(" ")[1]);
        }
        for (Method m : CanalKeeper.class.getDeclaredMethods()) {
            if (Modifier.isPrivate(m.getModifiers())) {
                Check.due("private " + m.getName() + " bears a public name", names.contains(m.getName()), false);
            }
            Check.due("parameters of " + m.getName(), m.getParameterCount() <= 7, true);
        }
        Class<?>[] inside = CanalKeeper.class.getDeclaredClasses();
        Check.due("classes", inside.length <= 12, true);
        for (Class<?> c : inside) {
            Check.due("static " + c, Modifier.isStatic(c.getModifiers()), true);
            fields(c);
            for (Method m : c.getDeclaredMethods()) {
                Check.due(c + " has " + m.getName(), names.contains(m.getName()), false);
            }
        }
        fields(CanalKeeper.class);
    }

    private static void fields(Class<?> c) {
        int own = 0;
        for (Field f : c.getDeclaredFields()) {
            if (Modifier.isStatic(f.getModifiers())) {
                Check.due("final " + f, Modifier.isFinal(f.getModifiers()), true);
            } else {
                own++;
            }
        }
        Check.due("fields of " + c, own <= 20, true);
    }

    private static void source() throws IOException {
        String text = Files.readString(Path.of("src/main/java/CanalKeeper.java"));
        for (int i = 0; i < text.length(); i++) {
            Check.due("sign at " + i, text.charAt(i) < 127, true);
        }
        String code = text.replaceAll("(?s)/\\*.*?\\*/", "").replaceAll("//[^\n]*", "");
        String[] banned = {"throw", "throws", "try", "catch", "synchronized", "assert", "protected", "Exact", "->\\s*\\{",
            "::", "package", "instanceof", "Random", "System\\.(?!arraycopy)", "import (?!java\\.util\\.Arrays;)"};
        for (String word : banned) {
            Matcher m = Pattern.compile("\\b" + word).matcher(code);
            if (!Character.isLetter(word.charAt(0))) {
                m = Pattern.compile(word).matcher(code);
            }
            Check.due("the source has " + word, m.find(), false);
        }
        libraryCalls(code);
        methodsStayShort(code);
    }

    /** Rule 4: of the library only what it lists, as far as the class has use for it. */
    private static void libraryCalls(String code) {
        Set<String> listed = Set.of("Math.max", "Math.min", "Math.abs", "Arrays.fill", "System.arraycopy");
        Matcher m = Pattern.compile("\\b(?:Math|Arrays|System|Integer|Long|String|List|ArrayList)\\.\\w+").matcher(code);
        while (m.find()) {
            Check.due("the source has " + m.group(), code.startsWith("import", code.lastIndexOf('\n', m.start()) + 1)
                || listed.contains(m.group()), true);
        }
    }

    private static void methodsStayShort(String code) {
        int depth = 0;
        int start = 0;
        int number = 0;
        boolean isMethod = false;
        for (String line : code.split("\n")) {
            number++;
            if (line.matches("^ {4,8}\\S.*\\) \\{$")) {
                start = number;
                depth = line.length() - line.stripLeading().length();
                isMethod = true;
            } else if (isMethod && line.matches("^ {" + depth + "}\\}$")) {
                Check.due("lines of the method that ends with line " + number, number - start <= 60, true);
                isMethod = false;
            }
        }
    }
}
