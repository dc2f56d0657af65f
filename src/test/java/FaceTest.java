import java.lang.reflect.Constructor;
import java.lang.reflect.Field;
import java.lang.reflect.Method;
import java.lang.reflect.Modifier;
import java.nio.file.Files;
import java.nio.file.Path;
import java.util.Arrays;
import java.util.Set;
import java.util.TreeSet;
import java.util.regex.Matcher;
import java.util.regex.Pattern;

/** The public face, and those rules of LANGUAGE.md that can be seen from outside or in the source's words. */
public final class FaceTest {
    private static final String SOURCE = "src/main/java/TrueOneWay.java";
    private static final String[] FACE = {
        "letter 1", "land 0", "road 2", "sign 2", "shown 1", "fits 1", "good 1", "says 2", "worlds 1", "fact 2",
        "way 2", "forget 0", "sure 1", "proof 0", "tells 2", "rings 0", "joking 1", "bears 1", "fewest 2",
        "together 1", "go 2", "row 1", "book 1", "next 0", "lands 3", "judge 1", "image 0", "on 0", "count 1",
    };
    private static final String[] BANNED = {
        "throw", "throws", "try", "catch", "synchronized", "assert", "import", "package", "native", "volatile",
        "protected", "hashCode", "toString", "Exact", "Random", "Thread", "File", "Object", "Object[]", "yield",
    };

    public static void main(String[] args) throws Exception {
        face();
        members();
        namesInside();
        words();
        methodsAreShort();
        Check.end("FaceTest");
    }

    private static void face() {
        Class<?> c = TrueOneWay.class;
        Check.isTrue("public and final", Modifier.isPublic(c.getModifiers()) && Modifier.isFinal(c.getModifiers()));
        Constructor<?>[] made = c.getDeclaredConstructors();
        Check.isTrue("one public constructor of nothing", made.length == 1
                && Modifier.isPublic(made[0].getModifiers()) && made[0].getParameterCount() == 0);
        Set<String> seen = new TreeSet<>();
        for (Method m : c.getDeclaredMethods()) {
            if (Modifier.isPrivate(m.getModifiers())) {
                continue;
            }
            boolean ints = m.getReturnType() == int.class && Modifier.isPublic(m.getModifiers())
                    && !Modifier.isStatic(m.getModifiers());
            for (Class<?> p : m.getParameterTypes()) {
                ints &= p == int.class;
            }
            Check.isTrue("ints alone: " + m, ints);
            seen.add(m.getName() + " " + m.getParameterCount());
        }
        Check.isTrue("the methods of the face: " + seen, seen.equals(new TreeSet<>(Arrays.asList(FACE))));
    }

    private static void members() {
        for (Field f : TrueOneWay.class.getDeclaredFields()) {
            Check.isTrue("private: " + f, Modifier.isPrivate(f.getModifiers()));
        }
        Class<?>[] inside = TrueOneWay.class.getDeclaredClasses();
        Check.isTrue("at most twelve classes", inside.length + 1 <= 12);
        for (Class<?> c : inside) {
            Check.isTrue("static, not public: " + c, Modifier.isStatic(c.getModifiers())
                    && !Modifier.isPublic(c.getModifiers()) && !Modifier.isProtected(c.getModifiers()));
            statics(c);
        }
        statics(TrueOneWay.class);
    }

    private static void statics(Class<?> c) {
        int fields = 0;
        for (Field f : c.getDeclaredFields()) {
            if (Modifier.isStatic(f.getModifiers())) {
                Class<?> t = f.getType();
                Check.isTrue("a constant: " + f, Modifier.isFinal(f.getModifiers()) && (t == int.class
                        || t == long.class || t == boolean.class || t == char.class || t == String.class));
            } else {
                fields++;
            }
        }
        Check.isTrue("at most twenty fields: " + c, fields <= 20);
    }

    private static void namesInside() {
        Set<String> names = new TreeSet<>();
        for (String method : FACE) {
            names.add(method.substring(0, method.indexOf(' ')));
        }
        for (Method m : TrueOneWay.class.getDeclaredMethods()) {
            Check.isTrue("no private name of a public one: " + m,
                    Modifier.isPublic(m.getModifiers()) || !names.contains(m.getName()));
        }
        for (Class<?> c : TrueOneWay.class.getDeclaredClasses()) {
            for (Method m : c.getDeclaredMethods()) {
                Check.isTrue("no public name inside: " + m, !names.contains(m.getName()));
                Check.isTrue("at most seven parameters: " + m, m.getParameterCount() <= 7);
            }
        }
    }

    private static void words() throws Exception {
        String source = Files.readString(Path.of(SOURCE));
        boolean plain = true;
        for (int i = 0; i < source.length(); i++) {
            plain &= source.charAt(i) < 128;
        }
        Check.isTrue("signs below 128 alone", plain);
        String code = source.replaceAll("(?s)/\\*.*?\\*/", "").replaceAll("//[^\n]*", "");
        for (String word : BANNED) {
            Matcher m = Pattern.compile("\\b" + Pattern.quote(word) + "\\b").matcher(code);
            Check.isTrue("without the word " + word, !m.find());
        }
        Check.isTrue("no lambda and no method reference", !code.contains("->") && !code.contains("::"));
        Matcher library = Pattern.compile("\\b(Math|Integer|Long|System|Arrays|String)\\.(\\w+)").matcher(code);
        Set<String> used = new TreeSet<>();
        while (library.find()) {
            used.add(library.group());
        }
        used.removeAll(Set.of("Math.max", "Math.min", "Integer.bitCount", "System.arraycopy"));
        Check.isTrue("no more of the library: " + used, used.isEmpty());
        // Objects and rows are made with the object alone, never by a call.
        for (String line : code.split("\n")) {
            boolean field = line.trim().matches("(private )?(static )?final .* = new .*");
            Check.isTrue("nothing is made in: " + line.trim(), field || !line.matches(".*\\bnew\\b.*"));
        }
    }

    private static void methodsAreShort() throws Exception {
        String[] lines = Files.readString(Path.of(SOURCE)).split("\n");
        int methods = 0;
        for (int i = 0; i < lines.length; i++) {
            String indent = lines[i].replaceAll("\\S.*", "");
            boolean method = lines[i].matches("( {4}| {8})(?!if|for|while|switch|else)[a-zA-Z].*\\) \\{");
            for (int j = i; method && j < lines.length; j++) {
                if (lines[j].equals(indent + "}")) {
                    Check.isTrue("some sixty lines at most: " + lines[i].trim(), j - i < 60);
                    methods++;
                    break;
                }
            }
        }
        Check.isTrue("methods looked at: " + methods, methods > FACE.length + 40);
    }
}
