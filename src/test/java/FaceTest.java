import java.io.IOException;
import java.lang.reflect.Constructor;
import java.lang.reflect.Field;
import java.lang.reflect.Method;
import java.lang.reflect.Modifier;
import java.nio.charset.StandardCharsets;
import java.nio.file.Files;
import java.nio.file.Path;
import java.util.ArrayList;
import java.util.List;
import java.util.Set;
import java.util.TreeSet;
import java.util.regex.Matcher;
import java.util.regex.Pattern;

/** The public face as the document writes it, and the rules of LANGUAGE.md that a short look can test. */
public final class FaceTest {
    private static final Path DOCUMENT = Path.of("../shared/DOC.md");
    private static final Path PROGRAM = Path.of("src/main/java/MemoryCourt.java");

    // What rules 4, 6, 8 and 10 shut out, as it would stand in the source.
    private static final String[] SHUT_OUT = {"->", "::", "\\bpackage\\b", "\\bsynchronized\\b", "\\bassert\\b", "\\bfinally\\b",
        "\\btry\\b", "\\bcatch\\b", "\\bMath\\.\\w+Exact\\b", "\\bMath\\.(?!min|max|abs|floor)", "\\bSystem\\.(?!arraycopy)",
        "\\bordinal\\b", "\\bObject\\b", "\\bString\\.format\\b", "\\bThread\\b", "\\bRandom\\b", "\\btoString\\b", "\\bprotected\\b",
        "\\bArrays\\.(?!fill|copyOf)", "\\bwhile\\b", "\\brecord\\s+\\w+\\("};

    public static void main(String[] args) throws Exception {
        Set<String> constants = new TreeSet<>(), methods = new TreeSet<>();
        readFace(constants, methods);
        Check.at("the face");
        Check.all("8 47", constants.size(), methods.size());
        Check.equal(constants(), constants);
        Check.equal(methods(), methods);
        Check.equal(headings(), names(methods));
        theClass();
        nothingElse(names(methods));
        sizes();
        source();
        Check.finish("FaceTest");
    }

    // ---- what the document says

    /** Reads the section "The public face": a constant as "NONE = -1", a method as "int page(int) throws X". */
    private static void readFace(Set<String> constants, Set<String> methods) throws IOException {
        String text = Files.readString(DOCUMENT, StandardCharsets.UTF_8);
        int from = text.indexOf("public final class MemoryCourt {", text.indexOf("## The public face"));
        String face = text.substring(from, text.indexOf("\n}", from));
        Pattern method = Pattern.compile("public (\\w+) (\\w+)\\((.*?)\\)(?: throws (.*))?;");
        for (String line : face.split("\n")) {
            String told = line.trim();
            Matcher m = method.matcher(told);
            if (told.startsWith("public static final int ")) {
                for (String each : told.substring(24, told.length() - 1).split(", ")) {
                    constants.add("int " + each);
                }
            } else if (m.matches()) {
                String parameters = m.group(3).replaceAll(" \\w+(,|$)", "$1");
                methods.add(m.group(1) + " " + m.group(2) + "(" + parameters + ")" + (m.group(4) == null ? "" : " throws " + m.group(4)));
            } else if (!told.equals("public final class MemoryCourt {")) {
                Check.equal(told, "public MemoryCourt();");
            }
        }
    }

    /** The names in the headings of the promises, apart from the first one, a new object. */
    private static Set<String> headings() throws IOException {
        Set<String> names = new TreeSet<>();
        for (String line : Files.readAllLines(DOCUMENT, StandardCharsets.UTF_8)) {
            if (line.startsWith("## Promise ") && !line.startsWith("## Promise 1:")) {
                names.add(line.substring(line.indexOf(": ") + 2));
            }
        }
        return names;
    }

    private static Set<String> names(Set<String> methods) {
        Set<String> names = new TreeSet<>();
        for (String method : methods) {
            names.add(method.substring(method.indexOf(' ') + 1, method.indexOf('(')));
        }
        return names;
    }

    // ---- what the class has

    private static Set<String> methods() {
        Set<String> found = new TreeSet<>();
        for (Method m : MemoryCourt.class.getDeclaredMethods()) {
            if (Modifier.isPublic(m.getModifiers()) && !m.isSynthetic()) {
                Check.equal(m.getName() + Modifier.isStatic(m.getModifiers()), m.getName() + false);
                found.add(m.getReturnType() + " " + m.getName() + "(" + listed(m.getParameterTypes()) + ")"
                    + (m.getExceptionTypes().length > 0 ? " throws " + listed(m.getExceptionTypes()) : ""));
            }
        }
        return found;
    }

    private static String listed(Class<?>[] types) {
        List<String> names = new ArrayList<>();
        for (Class<?> type : types) {
            names.add(type.getSimpleName());
        }
        return String.join(", ", names);
    }

    private static Set<String> constants() throws IllegalAccessException {
        Set<String> found = new TreeSet<>();
        for (Field f : MemoryCourt.class.getDeclaredFields()) {
            if (Modifier.isPublic(f.getModifiers())) {
                boolean constant = Modifier.isStatic(f.getModifiers()) && Modifier.isFinal(f.getModifiers());
                found.add(f.getType() + " " + f.getName() + (constant ? " = " + f.get(null) : " is no constant"));
            }
        }
        return found;
    }

    private static void theClass() {
        Class<?> c = MemoryCourt.class;
        Check.all("true true", Modifier.isFinal(c.getModifiers()), Modifier.isPublic(c.getModifiers()));
        Check.all("java.lang.Object 0 0 ", c.getSuperclass().getName(), c.getInterfaces().length, c.getTypeParameters().length,
            c.getPackageName());
        Constructor<?>[] constructors = c.getDeclaredConstructors();
        Check.all("1 0 0 true", constructors.length, constructors[0].getParameterCount(), constructors[0].getExceptionTypes().length,
            Modifier.isPublic(constructors[0].getModifiers()));
    }

    private static void nothingElse(Set<String> names) {
        Check.at("rule 1");
        for (Method m : MemoryCourt.class.getDeclaredMethods()) {
            if (!Modifier.isPublic(m.getModifiers()) && !m.isSynthetic()) {
                Check.equal(m.getName() + Modifier.isPrivate(m.getModifiers()), m.getName() + true);
                Check.equal(m.getName() + names.contains(m.getName()), m.getName() + false);
            }
        }
        for (Field f : MemoryCourt.class.getDeclaredFields()) {
            boolean known = Modifier.isPublic(f.getModifiers()) || Modifier.isPrivate(f.getModifiers());
            Check.equal(f.getName() + known, f.getName() + true);
        }
        for (Class<?> c : MemoryCourt.class.getDeclaredClasses()) {
            int modifiers = c.getModifiers();
            Check.equal(c.getName() + Modifier.isStatic(modifiers), c.getName() + true);
            Check.equal(c.getName() + (Modifier.isPublic(modifiers) || Modifier.isProtected(modifiers)), c.getName() + false);
            for (Method m : c.getDeclaredMethods()) {
                boolean hidden = Modifier.isPrivate(m.getModifiers()) && names.contains(m.getName());
                Check.equal(c.getName() + m.getName() + hidden, c.getName() + m.getName() + false);
            }
        }
    }

    private static void sizes() throws IOException {
        Check.at("rules 5 and 11");
        List<Class<?>> classes = new ArrayList<>(List.of(MemoryCourt.class.getDeclaredClasses()));
        classes.add(MemoryCourt.class);
        Check.equal(classes.size() <= 12, true);
        for (Class<?> c : classes) {
            int fields = 0;
            for (Field f : c.getDeclaredFields()) {
                boolean constant = Modifier.isStatic(f.getModifiers()) && Modifier.isFinal(f.getModifiers());
                Check.equal(f.getName() + (constant || !Modifier.isStatic(f.getModifiers())), f.getName() + true);
                fields += constant ? 0 : 1;
            }
            Check.equal(c.getName() + (fields <= 20), c.getName() + true);
            for (Method m : c.getDeclaredMethods()) {
                Check.equal(m.getName() + (m.getParameterCount() <= 7), m.getName() + true);
            }
        }
        // A method ends with a brace below the beginning of its line.
        List<String> lines = Files.readAllLines(PROGRAM, StandardCharsets.ISO_8859_1);
        for (int i = 0; i < lines.size(); i++) {
            String line = lines.get(i);
            String margin = line.substring(0, line.length() - line.stripLeading().length());
            if ((margin.length() == 4 || margin.length() == 8) && line.contains(")") && line.endsWith("{")) {
                int end = i;
                while (end < lines.size() && !lines.get(end).equals(margin + "}")) {
                    end++;
                }
                Check.equal(line + (end - i <= 60), line + true);
            }
        }
    }

    private static void source() throws IOException {
        String text = Files.readString(PROGRAM, StandardCharsets.ISO_8859_1);
        Check.at("LANGUAGE.md");
        for (int i = 0; i < text.length(); i++) {
            if (text.charAt(i) > 126 || text.charAt(i) < 32 && text.charAt(i) != 10) {
                Check.equal("byte " + (int) text.charAt(i) + " at " + i, "a sign of the source");
            }
        }
        String code = text.replaceAll("/\\*(?s:.*?)\\*/", " ").replaceAll("//[^\n]*", " ");
        for (String shut : SHUT_OUT) {
            Check.equal(shut + Pattern.compile(shut).matcher(code).find(), shut + false);
        }
        for (String line : code.split("\n")) {
            if (line.startsWith("import ")) {
                Check.equal(List.of("import java.util.Arrays;", "import java.util.NoSuchElementException;").contains(line), true);
            }
        }
    }
}
