import java.lang.reflect.Constructor;
import java.lang.reflect.Field;
import java.lang.reflect.Method;
import java.lang.reflect.Modifier;
import java.nio.charset.StandardCharsets;
import java.nio.file.Files;
import java.nio.file.Path;
import java.util.Set;
import java.util.TreeMap;
import java.util.TreeSet;
import java.util.regex.Matcher;
import java.util.regex.Pattern;

/** The public face, the constants, and the rules of LANGUAGE.md that can be read off the text and the class. */
public final class FaceTest {
    private static final String FACE = "append(int) aim(int,int) aimHere() bestFolds() clearText() colour(int,int) "
            + "count(int) errorPosition() fold(int) foldAt(int) holes(int) ifPunched(int,int) ink(int,int,int) "
            + "layer(int,int,int,int) mend(int,int) open() punch(int,int,int) punches() restore() save() "
            + "seen(int,int) size(int) symmetries() target(int) undo() unfold() where(int,int) work()";

    private FaceTest() {
    }

    public static void main(String[] args) throws Exception {
        constants();
        methods();
        members();
        source();
        Due.end();
    }

    private static void constants() {
        TreeMap<String, Integer> due = new TreeMap<>();
        due.put("NO_SUCH", -1);
        due.put("BAD_VALUE", -2);
        due.put("NOT_POSSIBLE", -3);
        due.put("LIMIT", -4);
        due.put("BAD_TEXT", -5);
        due.put("NONE", -6);
        TreeMap<String, Integer> found = new TreeMap<>();
        for (Field field : PunchedFolds.class.getDeclaredFields()) {
            int modifiers = field.getModifiers();
            if (Modifier.isPublic(modifiers)) {
                Due.isTrue(field + " is a constant", Modifier.isStatic(modifiers) && Modifier.isFinal(modifiers));
                found.put(field.getName(), valueOf(field));
            }
        }
        Due.isTrue("the constants " + found, found.equals(due));
    }

    private static int valueOf(Field field) {
        try {
            return field.getInt(null);
        } catch (IllegalAccessException e) {
            return Integer.MIN_VALUE;
        }
    }

    private static void methods() {
        TreeSet<String> found = new TreeSet<>();
        for (Method method : PunchedFolds.class.getDeclaredMethods()) {
            if (Modifier.isPublic(method.getModifiers())) {
                Due.isTrue(method + " answers an int", method.getReturnType() == int.class);
                found.add(method.toString().replaceAll(".*PunchedFolds\\.", ""));
            }
        }
        Due.isTrue("the methods " + found, found.equals(new TreeSet<>(Set.of(FACE.split(" ")))));
    }

    private static void members() {
        Class<?> face = PunchedFolds.class;
        Due.isTrue("public and final", face.getModifiers() == (Modifier.PUBLIC | Modifier.FINAL));
        Constructor<?>[] constructors = face.getDeclaredConstructors();
        Due.is("the number of constructors", constructors.length, 1);
        Due.is("parameters of the constructor", constructors[0].getParameterCount(), 0);
        Due.isTrue("a public constructor", Modifier.isPublic(constructors[0].getModifiers()));
        TreeSet<String> names = new TreeSet<>();
        for (String signature : FACE.split(" ")) {
            names.add(signature.substring(0, signature.indexOf('(')));
        }
        for (Method method : face.getDeclaredMethods()) {
            int modifiers = method.getModifiers();
            Due.isTrue(method + " is public or private", Modifier.isPublic(modifiers) || Modifier.isPrivate(modifiers));
            Due.isTrue(method + " has a name of its own",
                    Modifier.isPublic(modifiers) || !names.contains(method.getName()));
        }
        for (Field field : face.getDeclaredFields()) {
            int modifiers = field.getModifiers();
            Due.isTrue(field + " is public or private", Modifier.isPublic(modifiers) || Modifier.isPrivate(modifiers));
            Due.isTrue(field + " is not static, or final",
                    !Modifier.isStatic(modifiers) || Modifier.isFinal(modifiers));
        }
        for (Class<?> inside : face.getDeclaredClasses()) {
            Due.isTrue(inside + " is static and private",
                    Modifier.isStatic(inside.getModifiers()) && Modifier.isPrivate(inside.getModifiers()));
        }
        Due.isTrue("at most twelve classes", face.getDeclaredClasses().length < 12);
    }

    private static void source() throws Exception {
        Path file = Path.of("src", "main", "java", "PunchedFolds.java");
        String text = Files.readString(file, StandardCharsets.US_ASCII);
        String code = text.replaceAll("(?s)/\\*.*?\\*/", "").replaceAll("//[^\n]*", "");
        Matcher matcher = Pattern.compile("\\b(throw|try|catch|finally|synchronized|assert|import|package|protected"
                + "|instanceof|float|double|random|System\\.(?!arraycopy))\\b|->|::|Exact").matcher(code);
        while (matcher.find()) {
            Due.isTrue("no " + matcher.group() + " in the program", false);
        }
    }
}
