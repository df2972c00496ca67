import java.io.IOException;
import java.lang.reflect.Constructor;
import java.lang.reflect.Field;
import java.lang.reflect.Method;
import java.lang.reflect.Modifier;
import java.nio.file.Files;
import java.nio.file.Path;
import java.util.Set;
import java.util.TreeSet;
import java.util.regex.Matcher;
import java.util.regex.Pattern;

/** The public face as the document has it, and those rules of LANGUAGE.md that a glance at the text can hold. */
public final class FaceTest {
    private static final String[] METHODS = {
        "int sellShares(int,int,int,int,int)", "int sellVotes(int,int,int,int,int)", "int veto(int,int,int,int)",
        "int cancel(int)", "int told(int,int)", "int look(int)", "int rule(int,int)", "int holds(int,int,int)",
        "int controls(int)", "int how(int,int,int)", "int above(int,int)", "int when(int,int,int)",
        "int fewest(int,int,int)", "int event(int,int)", "long stake(int,int,int)", "long nobody(int,int)",
        "int ranked(int,int)", "int owners(int)", "int circle(int)", "int image(int)", "int restore(int)",
        "int count(int)"};
    private static final String[] CONSTANTS = {"UNKNOWN", "OUTSIDE", "STATE", "FULL", "NO", "NONE"};
    private static final String[] FORBIDDEN = {"\\bthrow\\b", "\\btry\\b", "\\bcatch\\b", "\\bsynchronized\\b",
        "\\bassert\\b", "\\bimport\\b", "\\bpackage\\b", "\\bnative\\b", "->", "::", "Exact\\b", "\\bprotected\\b",
        "\\bfloat\\b", "\\bdouble\\b", "@", "\\bstatic\\s*\\{", "while\\s*\\(true\\)"};

    private final Check check = new Check();

    public static void main(String[] args) throws IOException {
        FaceTest t = new FaceTest();
        t.face();
        t.classesInside();
        t.text();
        t.check.end();
    }

    private static String text(Method m) {
        StringBuilder s = new StringBuilder();
        s.append(m.getReturnType()).append(' ').append(m.getName()).append('(');
        for (Class<?> type : m.getParameterTypes()) {
            s.append(s.charAt(s.length() - 1) == '(' ? "" : ",").append(type);
        }
        return s.append(')').toString();
    }

    private void face() {
        Class<?> c = ControlRegister.class;
        check.isTrue("public and final", Modifier.isPublic(c.getModifiers()) && Modifier.isFinal(c.getModifiers()));
        check.isTrue("no interface", c.getInterfaces().length == 0 && c.getSuperclass() == Object.class);
        Constructor<?>[] constructors = c.getDeclaredConstructors();
        check.isTrue("one public constructor without parameters", constructors.length == 1
            && constructors[0].getParameterCount() == 0 && Modifier.isPublic(constructors[0].getModifiers()));
        Set<String> methods = new TreeSet<>();
        Set<String> names = new TreeSet<>();
        for (Method m : c.getDeclaredMethods()) {
            if (!Modifier.isPrivate(m.getModifiers())) {
                check.isTrue(m + " is public and no static one",
                    Modifier.isPublic(m.getModifiers()) && !Modifier.isStatic(m.getModifiers()));
                methods.add(text(m));
                names.add(m.getName());
            }
        }
        check.isTrue("the methods are the document's: " + methods, methods.equals(new TreeSet<>(Set.of(METHODS))));
        for (Method m : c.getDeclaredMethods()) {
            check.isTrue(m + " bears no public one's name",
                !Modifier.isPrivate(m.getModifiers()) || !names.contains(m.getName()));
            check.isTrue(m + " has at most seven parameters", m.getParameterCount() <= 7);
        }
        fields(c);
    }

    private void fields(Class<?> c) {
        Set<String> open = new TreeSet<>();
        for (Field f : c.getDeclaredFields()) {
            int kind = f.getModifiers();
            if (!Modifier.isPrivate(kind)) {
                open.add(f.getName());
                check.isTrue(f + " is a constant", Modifier.isPublic(kind) && Modifier.isStatic(kind)
                    && Modifier.isFinal(kind) && f.getType() == int.class);
            }
            check.isTrue(f + " is final if static", !Modifier.isStatic(kind) || Modifier.isFinal(kind));
        }
        check.isTrue("the constants are the document's", open.equals(new TreeSet<>(Set.of(CONSTANTS))));
        check.due("UNKNOWN", ControlRegister.UNKNOWN, -1);
        check.due("OUTSIDE", ControlRegister.OUTSIDE, -2);
        check.due("STATE", ControlRegister.STATE, -3);
        check.due("FULL", ControlRegister.FULL, -4);
        check.due("NO", ControlRegister.NO, -5);
        check.due("NONE", ControlRegister.NONE, -6);
    }

    private void classesInside() {
        Class<?>[] inside = ControlRegister.class.getDeclaredClasses();
        check.isTrue("at most twelve classes", inside.length < 12);
        for (Class<?> c : inside) {
            int kind = c.getModifiers();
            check.isTrue(c + " is static and not public", Modifier.isStatic(kind) && !Modifier.isPublic(kind));
            int own = 0;
            for (Field f : c.getDeclaredFields()) {
                boolean isStatic = Modifier.isStatic(f.getModifiers());
                own += isStatic ? 0 : 1;
                check.isTrue(f + " is final if static", !isStatic || Modifier.isFinal(f.getModifiers()));
            }
            check.isTrue(c + " has at most twenty fields", own <= 20);
        }
    }

    private void text() throws IOException {
        Path file = Path.of(System.getProperty("project.root", "."), "src/main/java/ControlRegister.java");
        String all = Files.readString(file);
        String code = all.replaceAll("(?s)/\\*.*?\\*/", "").replaceAll("//[^\n]*", "");
        for (String word : FORBIDDEN) {
            Matcher m = Pattern.compile(word).matcher(code);
            check.isTrue("the class does without " + word, !m.find());
        }
        // Rows are made where the fields are declared, so no call makes an object.
        for (String line : code.split("\n")) {
            boolean isField = line.matches("\\s*(private )?(static )?(final )?\\S+ \\w+ = new .*;");
            check.isTrue("made outside a field: " + line, !line.contains("new ") || isField && line.contains("final "));
        }
        methodsAreShort(code);
    }

    private void methodsAreShort(String code) {
        int start = -1;
        String[] lines = code.split("\n");
        for (int i = 0; i < lines.length; i++) {
            if (lines[i].matches("( {4}| {8})\\S.*\\) \\{")) {
                start = i;
            }
            if (lines[i].matches("( {4}| {8})\\}") && start >= 0) {
                check.isTrue("at most sixty lines: " + lines[start].strip(), i - start <= 60);
                start = -1;
            }
        }
    }
}
