import java.lang.reflect.Constructor;
import java.lang.reflect.Field;
import java.lang.reflect.Method;
import java.lang.reflect.Modifier;
import java.nio.file.Files;
import java.nio.file.Path;
import java.util.HashSet;
import java.util.Set;
import java.util.TreeSet;

/** The public face, and the rules of LANGUAGE.md that can be seen without reading much. */
final class FaceTest extends TestBase {
    private static final Set<String> FACE = Set.of(
        "int step(int,int,int,int)", "int wipe()", "int run(int,int)", "int end()", "long result()", "int kind()",
        "int cause(int)", "long out(int)", "int finished(int)", "int depth()", "int status(int)",
        "long number(int)", "int hand(int)", "long mark(int)", "int size(int,int)", "long value(int,int,int)",
        "int grid(int,int)");

    private static final String[] FORBIDDEN = {
        "throw", "throws", "try", "catch", "finally", "synchronized", "assert", "package", "protected", "native",
        "volatile", "transient", "strictfp", "Object", "System", "Thread", "Random", "Exception"
    };

    public static void main(String[] args) throws Exception {
        checkMembers();
        checkInside();
        checkSource(Files.readString(Path.of(args[0])));
        close();
    }

    private static void checkMembers() {
        int modifiers = TrialStair.class.getModifiers();
        due("class public and final", modifiers & (Modifier.PUBLIC | Modifier.FINAL), Modifier.PUBLIC | Modifier.FINAL);
        Set<String> seen = new TreeSet<>();
        Set<String> names = new HashSet<>();
        for (Method method : TrialStair.class.getDeclaredMethods()) {
            if (!Modifier.isPrivate(method.getModifiers())) {
                seen.add(told(method));
                names.add(method.getName());
            }
        }
        due("the face is the document's: " + seen, seen.equals(FACE) ? 1 : 0, 1);
        for (Method method : TrialStair.class.getDeclaredMethods()) {
            if (Modifier.isPrivate(method.getModifiers())) {
                due("private " + method.getName() + " bears a public name", names.contains(method.getName()) ? 1 : 0, 0);
            }
        }
        Constructor<?>[] constructors = TrialStair.class.getDeclaredConstructors();
        due("constructors", constructors.length, 1);
        due("constructor's arguments", constructors[0].getParameterCount(), 0);
        due("constructor is public", Modifier.isPublic(constructors[0].getModifiers()) ? 1 : 0, 1);
        for (Field field : TrialStair.class.getDeclaredFields()) {
            due("field " + field.getName() + " is private", Modifier.isPrivate(field.getModifiers()) ? 1 : 0, 1);
        }
    }

    private static String told(Method method) {
        StringBuilder text = new StringBuilder();
        text.append(method.getReturnType().getName()).append(' ').append(method.getName()).append('(');
        for (Class<?> type : method.getParameterTypes()) {
            text.append(text.charAt(text.length() - 1) == '(' ? "" : ",").append(type.getName());
        }
        return text.append(')').toString();
    }

    private static void checkInside() {
        Class<?>[] inside = TrialStair.class.getDeclaredClasses();
        due("some twelve classes at most", inside.length < 12 ? 1 : 0, 1);
        for (Class<?> own : inside) {
            due(own.getName() + " is static", Modifier.isStatic(own.getModifiers()) ? 1 : 0, 1);
            due(own.getName() + " is public or protected",
                own.getModifiers() & (Modifier.PUBLIC | Modifier.PROTECTED), 0);
            int fields = 0;
            for (Field field : own.getDeclaredFields()) {
                boolean constant = Modifier.isStatic(field.getModifiers());
                due(field + ": static but not final", constant && !Modifier.isFinal(field.getModifiers()) ? 1 : 0, 0);
                fields += constant ? 0 : 1;
            }
            due(own.getName() + " has some twenty fields at most", fields <= 20 ? 1 : 0, 1);
            for (Method method : own.getDeclaredMethods()) {
                due(method + " has too many parameters", method.getParameterCount() > 7 ? 1 : 0, 0);
            }
        }
    }

    private static void checkSource(String source) {
        String code = source.replaceAll("(?s)/\\*.*?\\*/", "").replaceAll("//[^\n]*", "");
        for (String word : FORBIDDEN) {
            due("source has the word " + word, code.matches("(?s).*\\b" + word + "\\b.*") ? 1 : 0, 0);
        }
        due("source has a lambda or a method reference", code.contains("->") || code.contains("::") ? 1 : 0, 0);
        String imports = code.replaceAll("(?m)^(?!import ).*$", "").trim();
        due("imports: " + imports, imports.equals("import java.util.Arrays;") ? 1 : 0, 1);
    }
}
