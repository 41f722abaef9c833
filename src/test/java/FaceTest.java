import java.io.IOException;
import java.lang.reflect.Constructor;
import java.lang.reflect.Field;
import java.lang.reflect.Method;
import java.lang.reflect.Modifier;
import java.nio.charset.StandardCharsets;
import java.nio.file.Files;
import java.nio.file.Path;
import java.util.ArrayList;
import java.util.List;
import java.util.Set;
import java.util.TreeSet;
import java.util.regex.Pattern;

/** The public face as the document writes it, and the rules of LANGUAGE.md that a short look can test. */
public final class FaceTest {
    private static final String[] FACE = {
        "int feed(int,int,int,int,int)", "boolean truncate(int)", "int parse()", "int errorCode()", "int errorOffset()",
        "int count(int)", "int find()", "int process(int,int) IOB", "int loan(int,int) IOB", "int page(int) IOB",
        "int pageOf(int,int) IOB NSE", "int pieces(int) IOB", "int longestFree()", "int claim(int,int) IOB",
        "int waiting(int) NSE", "int fine(int,int) IAE NSE", "int evidence(int) NSE", "boolean wasStalled(int,int) IOB",
        "int nextHearing()", "int shortage()", "int overdue()", "int firstBroken()", "int worst()", "double meanLate()",
        "float metShare()", "int run(int) IAE ISE", "int ask(int,int,int) IOB IAE ISE", "int withdraw(int) IOB ISE",
        "int giveBack(int,int) IOB IAE", "int renew(int,int) IOB IAE ISE", "int stall(int,int) IOB IAE",
        "int appeal(int) ISE NSE", "int setOrder(int) IAE", "int undo() ISE", "int metIn(int,int) IOB IAE",
        "int refusedIn(int,int) IOB IAE", "int wouldFine(int) IOB", "int wouldPay(int) IOB", "int freeIn(int) IAE",
        "int processIn(int,int,int) IOB IAE", "int bestOrder(int) IAE", "int helps(int,int) IOB", "int wouldAppeal(int) NSE",
        "int printProcess(int) IOB", "int outputByte(int)", "int saveState()", "int restoreState() ISE"};

    private static final String[] CONSTANTS = {"NONE=-1", "FIRST=0", "SMALL=1", "CLEAN=2", "WAITS=0", "MET=1", "REFUSED=2",
        "WITHDRAWN=3"};

    // What rules 4, 6, 8 and 10 shut out, as it would stand in the source.
    private static final String[] SHUT_OUT = {"->", "::", "\\bpackage\\b", "\\bsynchronized\\b", "\\bassert\\b", "\\bfinally\\b",
        "\\btry\\b", "\\bcatch\\b", "\\bMath\\.\\w+Exact\\b", "\\bMath\\.(?!min|max|abs|floor)", "\\bSystem\\.(?!arraycopy)",
        "\\bordinal\\b", "\\bObject\\b", "\\bString\\.format\\b", "\\bThread\\b", "\\bRandom\\b", "\\btoString\\b", "\\bprotected\\b",
        "\\bArrays\\.(?!fill|copyOf)", "\\bwhile\\b", "\\brecord\\s+\\w+\\("};

    public static void main(String[] args) throws Exception {
        Check.at("the face");
        Check.equal(methods(), new TreeSet<>(List.of(FACE)));
        Check.equal(constants(), new TreeSet<>(List.of(CONSTANTS)));
        Check.equal(Modifier.isFinal(MemoryCourt.class.getModifiers()), true);
        Check.equal(MemoryCourt.class.getPackageName(), "");
        nothingElse();
        source();
        Check.finish("FaceTest");
    }

    private static Set<String> methods() {
        Set<String> found = new TreeSet<>();
        for (Method m : MemoryCourt.class.getDeclaredMethods()) {
            if (Modifier.isPublic(m.getModifiers()) && !m.isSynthetic()) {
                List<String> parameters = new ArrayList<>();
                for (Class<?> p : m.getParameterTypes()) {
                    parameters.add(p.getName());
                }
                StringBuilder b = new StringBuilder(m.getReturnType() + " " + m.getName() + "(" + String.join(",", parameters) + ")");
                for (Class<?> e : m.getExceptionTypes()) {
                    b.append(e == IndexOutOfBoundsException.class ? " IOB" : e == IllegalArgumentException.class ? " IAE"
                        : e == IllegalStateException.class ? " ISE" : e == java.util.NoSuchElementException.class ? " NSE" : " " + e);
                }
                found.add(b.toString());
            }
        }
        return found;
    }

    private static Set<String> constants() throws IllegalAccessException {
        Set<String> found = new TreeSet<>();
        for (Field f : MemoryCourt.class.getDeclaredFields()) {
            if (Modifier.isPublic(f.getModifiers())) {
                boolean constant = Modifier.isStatic(f.getModifiers()) && Modifier.isFinal(f.getModifiers());
                found.add(f.getName() + (constant && f.getType() == int.class ? "=" + f.get(null) : " is no constant"));
            }
        }
        return found;
    }

    private static void nothingElse() {
        Check.at("rule 1");
        Set<String> names = new TreeSet<>();
        for (String method : FACE) {
            names.add(method.substring(method.indexOf(' ') + 1, method.indexOf('(')));
        }
        for (Method m : MemoryCourt.class.getDeclaredMethods()) {
            if (!Modifier.isPublic(m.getModifiers()) && !m.isSynthetic()) {
                Check.equal(m.getName() + Modifier.isPrivate(m.getModifiers()), m.getName() + true);
                Check.equal(m.getName() + names.contains(m.getName()), m.getName() + false);
            }
        }
        for (Field f : MemoryCourt.class.getDeclaredFields()) {
            boolean known = Modifier.isPublic(f.getModifiers()) || Modifier.isPrivate(f.getModifiers());
            Check.equal(f.getName() + known, f.getName() + true);
        }
        for (Class<?> c : MemoryCourt.class.getDeclaredClasses()) {
            Check.equal(c.getName() + Modifier.isStatic(c.getModifiers()), c.getName() + true);
            Check.equal(c.getName() + Modifier.isPublic(c.getModifiers()), c.getName() + false);
        }
        Constructor<?>[] constructors = MemoryCourt.class.getDeclaredConstructors();
        Check.all("1 0", constructors.length, constructors[0].getParameterCount());
    }

    private static void source() throws IOException {
        String text = Files.readString(Path.of("src/main/java/MemoryCourt.java"), StandardCharsets.ISO_8859_1);
        Check.at("LANGUAGE.md");
        for (int i = 0; i < text.length(); i++) {
            if (text.charAt(i) > 126 || text.charAt(i) < 32 && text.charAt(i) != 10) {
                Check.equal("byte " + (int) text.charAt(i) + " at " + i, "a sign of the source");
            }
        }
        String code = text.replaceAll("/\\*(?s:.*?)\\*/", " ").replaceAll("//[^\n]*", " ");
        for (String shut : SHUT_OUT) {
            Check.equal(shut + Pattern.compile(shut).matcher(code).find(), shut + false);
        }
        for (String line : code.split("\n")) {
            if (line.startsWith("import ")) {
                Check.equal(List.of("import java.util.Arrays;", "import java.util.NoSuchElementException;").contains(line), true);
            }
        }
    }
}
