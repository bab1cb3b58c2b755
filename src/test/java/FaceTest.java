import java.io.IOException;
import java.lang.reflect.Constructor;
import java.lang.reflect.Field;
import java.lang.reflect.Method;
import java.lang.reflect.Modifier;
import java.nio.file.Files;
import java.nio.file.Path;
import java.util.Set;
import java.util.TreeSet;

/** The public face, and those rules of LANGUAGE.md that can be seen by reflection or in the text. */
public final class FaceTest {
    private static final Due DUE = new Due("FaceTest");
    private static final String[] FACE = {"int feed(int,int,int,int,int)", "boolean end(int)", "int program()",
        "int fault()", "int fun(int,int) NoSuchElementException", "int points(int,int)", "int region(int,int)",
        "int span(int,int,int)", "boolean load()", "int steps(int)", "int now(int)", "int kind(int,int)",
        "int value(int,int) NoSuchElementException", "int cell(int,int)", "int in(int,int) NoSuchElementException",
        "int gave()", "int result() NoSuchElementException", "int room(int)", "int roomful(int)", "int reached()",
        "int isReached(int)", "int drag()", "int run()", "int ran(int)", "int odds(int,int)", "int undo()",
        "int sentence()", "int said(int)", "boolean image(int)", "boolean restore(int)", "int count(int)"};
    private static final String[] NEVER = {"package ", "->", "::", "catch", "finally", "synchronized", "assert ",
        "Exact(", "System.out", "System.err", "System.exit", "Thread", "Random", "hashCode", "\" +", "+ \"", "static {",
        "protected ", "getMessage", "double ", "float ", "HashMap", "nanoTime", "currentTime", "native ", "volatile "};

    public static void main(String[] args) throws IOException {
        face();
        classes();
        text(Files.readString(Path.of("src/main/java/RegionRooms.java")));
        DUE.end();
    }

    private static String told(Method m) {
        StringBuilder out = new StringBuilder(m.getReturnType().getSimpleName() + " " + m.getName() + "(");
        for (int i = 0; i < m.getParameterCount(); i++) {
            out.append(i == 0 ? "" : ",").append(m.getParameterTypes()[i].getSimpleName());
        }
        out.append(")");
        for (Class<?> thrown : m.getExceptionTypes()) {
            out.append(" ").append(thrown.getSimpleName());
        }
        return out.toString();
    }

    private static void face() {
        Class<?> c = RegionRooms.class;
        DUE.is("public and final", c.getModifiers(), Modifier.PUBLIC | Modifier.FINAL);
        Set<String> want = new TreeSet<>(Set.of(FACE));
        Set<String> got = new TreeSet<>();
        Set<String> hidden = new TreeSet<>();
        for (Method m : c.getDeclaredMethods()) {
            if (Modifier.isPublic(m.getModifiers())) {
                got.add(told(m));
            } else {
                DUE.is(m.getName() + " is private", Modifier.isPrivate(m.getModifiers()), true);
                hidden.add(m.getName());
            }
        }
        DUE.is("public methods " + got, got.equals(want), true);
        for (String face : FACE) {
            String name = face.substring(face.indexOf(' ') + 1, face.indexOf('('));
            DUE.is("no private method is named " + name, hidden.contains(name), false);
        }
        Constructor<?>[] constructors = c.getDeclaredConstructors();
        DUE.is("constructors", constructors.length, 1);
        DUE.is("without parameters", constructors[0].getParameterCount(), 0);
        DUE.is("public", Modifier.isPublic(constructors[0].getModifiers()), true);
        for (Field f : c.getDeclaredFields()) {
            boolean constant = f.getName().equals("NONE");
            DUE.is(f.getName(), Modifier.isPublic(f.getModifiers()), constant);
            DUE.is(f.getName() + " is private", Modifier.isPrivate(f.getModifiers()), !constant);
        }
    }

    private static void classes() {
        Class<?>[] inside = RegionRooms.class.getDeclaredClasses();
        DUE.is("classes inside, some twelve at most", inside.length <= 12, true);
        Set<String> names = new TreeSet<>();
        for (String face : FACE) {
            names.add(face.substring(face.indexOf(' ') + 1, face.indexOf('(')));
        }
        fields(RegionRooms.class);
        for (Class<?> c : inside) {
            DUE.is(c.getName() + " is static", Modifier.isStatic(c.getModifiers()), true);
            DUE.is(c.getName() + " is not public", Modifier.isPublic(c.getModifiers()), false);
            fields(c);
            for (Method m : c.getDeclaredMethods()) {
                DUE.is(c.getName() + "." + m.getName() + " has no name of the face", names.contains(m.getName()), false);
                DUE.is(m.getName() + " takes seven at most", m.getParameterCount() <= 7, true);
            }
        }
    }

    private static void fields(Class<?> c) {
        int own = 0;
        for (Field f : c.getDeclaredFields()) {
            if (Modifier.isStatic(f.getModifiers())) {
                DUE.is(f.getName() + " is final", Modifier.isFinal(f.getModifiers()), true);
            } else {
                own++;
            }
        }
        DUE.is(c.getName() + " has " + own + " fields", own <= 20, true);
    }

    private static void text(String text) {
        for (String never : NEVER) {
            DUE.is("in the text: " + never, text.contains(never), false);
        }
        int method = 0;
        int depth = 0;
        int line = 0;
        int began = 0;
        for (String row : text.split("\n")) {
            line++;
            DUE.is("line " + line + " is not too long", row.length() <= 130, true);
            if (row.startsWith("import ")) {
                boolean known = row.equals("import java.util.Arrays;") || row.equals("import java.util.NoSuchElementException;");
                DUE.is(row, known, true);
            }
            if (row.matches(" {4,8}[A-Za-z].*\\) (throws \\w+ )?\\{") && !row.contains("class ")) {
                began = line;
                depth = row.length() - row.stripLeading().length();
                method++;
            } else if (began > 0 && row.equals(" ".repeat(depth) + "}")) {
                DUE.is("the method at line " + began + " is short", line - began <= 60, true);
                began = 0;
            }
        }
        DUE.is("methods were seen", method > 100, true);
    }
}
