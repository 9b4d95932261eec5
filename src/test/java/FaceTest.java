import java.io.IOException;
import java.lang.reflect.Constructor;
import java.lang.reflect.Field;
import java.lang.reflect.Method;
import java.lang.reflect.Modifier;
import java.nio.file.Files;
import java.nio.file.Path;
import java.util.Arrays;
import java.util.TreeSet;
import java.util.regex.Matcher;
import java.util.regex.Pattern;

/** The public face, and the rules of the language that can be seen from outside or in the text. */
public final class FaceTest {
    private static final String[] FACE = {"int burn(int,int)", "int boot()", "int run(int)", "boolean type(int)",
        "int sample(int)", "int outputs()", "int output(int)", "int now()", "int turn()", "int state(int)",
        "int register(int,int)", "int word(int)", "int block(int)", "int open(int)", "int grant(int,int)",
        "int queued(int)", "int fault(int)", "int faults(int)", "boolean restart(int)", "boolean stop(int)"};

    private static final String[] BANNED = {"\\bthrow\\b", "\\btry\\b", "\\bcatch\\b", "\\bsynchronized\\b",
        "\\bassert\\b", "\\bimport\\b", "\\bpackage\\b", "->", "::", "\\bpublic\\b.*\\bstatic\\b", "\\bprotected\\b",
        "\\bSystem\\b", "\\bObject\\b", "\\bString\\b", "Exact\\(", "static\\s*\\{", "\\bnative\\b", "\\bvolatile\\b"};

    public static void main(String[] args) throws IOException {
        members();
        classesInside();
        text(Files.readString(Path.of("src/main/java/GrantKernel.java")));
        Checks.close("FaceTest");
    }

    private static void holds(String what, boolean is) {
        Checks.due(what, is, true);
    }

    private static void members() {
        Class<GrantKernel> face = GrantKernel.class;
        holds("the class is public", Modifier.isPublic(face.getModifiers()));
        holds("the class is final", Modifier.isFinal(face.getModifiers()));
        Constructor<?>[] constructors = face.getDeclaredConstructors();
        Checks.due("constructors", constructors.length, 1);
        holds("the constructor is public", Modifier.isPublic(constructors[0].getModifiers()));
        Checks.due("parameters of the constructor", constructors[0].getParameterCount(), 0);
        TreeSet<String> open = new TreeSet<>();
        for (Method method : face.getDeclaredMethods()) {
            if (!Modifier.isPrivate(method.getModifiers())) {
                holds(method.getName() + " is public", Modifier.isPublic(method.getModifiers()));
                open.add(signature(method));
            }
        }
        holds("the methods of the face: " + open, open.equals(new TreeSet<>(Arrays.asList(FACE))));
        for (Field field : face.getDeclaredFields()) {
            holds(field.getName() + " is private", Modifier.isPrivate(field.getModifiers()));
        }
    }

    private static String signature(Method method) {
        StringBuilder text = new StringBuilder();
        text.append(method.getReturnType()).append(' ').append(method.getName()).append('(');
        Class<?>[] types = method.getParameterTypes();
        for (int k = 0; k < types.length; k++) {
            text.append(k == 0 ? "" : ",").append(types[k]);
        }
        return text.append(')').toString();
    }

    private static void classesInside() {
        TreeSet<String> names = new TreeSet<>();
        for (String signature : FACE) {
            names.add(signature.replaceAll(".* |\\(.*", ""));
        }
        Class<?>[] inside = GrantKernel.class.getDeclaredClasses();
        holds("at most twelve classes", inside.length < 12);
        for (Class<?> each : inside) {
            holds(each.getName() + " is static", Modifier.isStatic(each.getModifiers()));
            for (Method method : each.getDeclaredMethods()) {
                holds(each.getName() + "." + method.getName() + " has a name of its own",
                    !names.contains(method.getName()));
                holds(method.getName() + " has at most seven parameters", method.getParameterCount() <= 7);
            }
            int fields = 0;
            for (Field field : each.getDeclaredFields()) {
                boolean fixed = Modifier.isFinal(field.getModifiers());
                fields += Modifier.isStatic(field.getModifiers()) ? 0 : 1;
                holds(field.getName() + " is final if static", fixed || !Modifier.isStatic(field.getModifiers()));
            }
            holds(each.getName() + " has some twenty fields", fields <= 22);
        }
        for (Method method : GrantKernel.class.getDeclaredMethods()) {
            boolean hidden = Modifier.isPrivate(method.getModifiers());
            holds(method.getName() + " is no private method of a public name",
                !hidden || !names.contains(method.getName()));
        }
    }

    private static void text(String source) {
        String bare = source.replaceAll("(?s)/\\*.*?\\*/", "").replaceAll("//[^\n]*", "");
        for (String banned : BANNED) {
            Matcher matcher = Pattern.compile(banned).matcher(bare);
            holds("the text is without " + banned, !matcher.find());
        }
        int length = 0;
        for (String line : bare.split("\n")) {
            boolean head = line.matches("( {4}| {8})[a-zA-Z].*\\) \\{");
            length = head ? 0 : length + 1;
            holds("a method stays short: " + line, length <= 62 || !line.matches("( {4}| {8})\\}"));
        }
    }
}
