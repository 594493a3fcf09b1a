import java.io.IOException;
import java.lang.reflect.Field;
import java.lang.reflect.Method;
import java.lang.reflect.Modifier;
import java.nio.file.Files;
import java.nio.file.Path;
import java.util.Arrays;
import java.util.Map;
import java.util.TreeMap;

/** The public face, and those rules of LANGUAGE.md that a look at the text can tell. */
public final class FaceTest {
    private static final Map<String, String> FACE = new TreeMap<>();

    static {
        FACE.put("add", "int [int, int, int, int, int, boolean]");
        FACE.put("put", "int [int, int, int, int, int, int, boolean]");
        FACE.put("cut", "int [int, int]");
        FACE.put("ofLine", "int [int, int, int]");
        FACE.put("fault", "int []");
        FACE.put("faultAt", "int []");
        FACE.put("ofItem", "int [int, int]");
        FACE.put("word", "int [int]");
        FACE.put("itemOf", "int [int]");
        FACE.put("isCode", "boolean [int]");
        FACE.put("value", "int [int]");
        FACE.put("many", "int [int]");
        FACE.put("meanSize", "double []");
        FACE.put("wordsWithout", "int [int, int]");
        FACE.put("wordsWith", "int [int, int, int]");
        FACE.put("distance", "int [int]");
        FACE.put("wrongly", "int []");
        FACE.put("longBy", "int [int, int]");
        FACE.put("digest", "long []");
    }

    public static void main(String[] args) throws IOException {
        face();
        classes();
        text(Files.readString(Path.of(args[0])));
        Check.finish("FaceTest");
    }

    private static void isTrue(String what, boolean is) {
        Check.same(what, is ? 1 : 0, 1);
    }

    private static void face() {
        Class<BranchPress> c = BranchPress.class;
        isTrue("public and final", Modifier.isPublic(c.getModifiers()) && Modifier.isFinal(c.getModifiers()));
        isTrue("one public constructor", c.getDeclaredConstructors().length == 1 && c.getConstructors().length == 1);
        Map<String, String> found = new TreeMap<>();
        for (Method method : c.getDeclaredMethods()) {
            if (Modifier.isPrivate(method.getModifiers())) {
                isTrue("private " + method.getName() + " bears a name of the face", !FACE.containsKey(method.getName()));
                continue;
            }
            isTrue(method.getName() + " is public", Modifier.isPublic(method.getModifiers()));
            String[] types = Arrays.stream(method.getParameterTypes()).map(Class::getName).toArray(String[]::new);
            found.put(method.getName(), method.getReturnType() + " " + Arrays.toString(types));
        }
        isTrue("the face is " + found, found.equals(FACE));
        for (Field field : c.getDeclaredFields()) {
            isTrue(field.getName() + " is private", Modifier.isPrivate(field.getModifiers()));
        }
    }

    private static void classes() {
        Class<?>[] inside = BranchPress.class.getDeclaredClasses();
        isTrue("at most 12 classes", inside.length < 12);
        for (Class<?> c : inside) {
            int modifiers = c.getModifiers();
            isTrue(c + " is static", Modifier.isStatic(modifiers));
            isTrue(c + " is not public or protected", !Modifier.isPublic(modifiers) && !Modifier.isProtected(modifiers));
            isTrue(c + " has some 20 fields", c.getDeclaredFields().length <= 20);
            for (Method method : c.getDeclaredMethods()) {
                isTrue(c + "." + method.getName() + " has few parameters", method.getParameterCount() <= 7);
                isTrue(c + "." + method.getName() + " bears a name of the face", !FACE.containsKey(method.getName()));
            }
            for (Field field : c.getDeclaredFields()) {
                isTrue(c + "." + field.getName() + " is no static state", !Modifier.isStatic(field.getModifiers()));
            }
        }
    }

    private static void text(String text) {
        String[] bans = {"import ", "package ", "->", "::", " finally", "synchronized", "assert ", "catch ", "System.out",
            "Exact(", "String.format", "instanceof", "var ", "\t"};
        for (String ban : bans) {
            isTrue("the text has no '" + ban + "'", !text.contains(ban));
        }
        for (int i = 0; i < text.length(); i++) {
            isTrue("sign " + i + " is plain", text.charAt(i) < 128);
        }
        int start = 0;
        String[] lines = text.split("\n");
        for (int i = 0; i < lines.length; i++) {
            boolean isHead = lines[i].matches(" {4,8}[a-zA-Z].*");
            start = isHead ? i : start;
            isTrue("line " + (i + 1) + " is in a short method", !lines[i].startsWith("            ") || i - start <= 60);
            isTrue("line " + (i + 1) + " is short", lines[i].length() <= 120);
        }
    }
}
