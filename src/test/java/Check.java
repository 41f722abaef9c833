import java.lang.reflect.Method;
import java.lang.reflect.Modifier;
import java.util.Arrays;
import java.util.Comparator;

/** What the tests of the promises share: courts from a text, and answers compared with those due. */
final class Check {
    private static int wrong = 0;
    private static String place = "";

    private Check() {
    }

    interface Call {
        Object make();
    }

    static void at(String promise) {
        place = promise;
    }

    static void equal(Object got, Object due) {
        if (!got.equals(due)) {
            wrong++;
            System.out.println(place + ": answered " + got + ", due is " + due + caller());
        }
    }

    /** Several answers at once. */
    static void all(String due, Object... got) {
        StringBuilder b = new StringBuilder();
        for (Object g : got) {
            b.append(b.length() > 0 ? " " : "").append(g);
        }
        equal(b.toString(), due);
    }

    static void throwing(Class<? extends RuntimeException> due, Call call) {
        try {
            equal("nothing thrown but answered " + call.make(), due.getName());
        } catch (RuntimeException e) {
            equal(e.getClass().getName(), due.getName());
        }
    }

    static void noIndex(Call call) {
        throwing(IndexOutOfBoundsException.class, call);
    }

    static void noArgument(Call call) {
        throwing(IllegalArgumentException.class, call);
    }

    static void noState(Call call) {
        throwing(IllegalStateException.class, call);
    }

    static void noElement(Call call) {
        throwing(java.util.NoSuchElementException.class, call);
    }

    /** Puts a text in place of the content of the input buffer. */
    static void input(MemoryCourt court, String text) {
        court.truncate(0);
        for (int i = 0; i < text.length(); i += 20) {
            int[] w = new int[5];
            for (int j = 0; j < 20; j++) {
                w[j / 4] = w[j / 4] << 8 | (i + j < text.length() ? text.charAt(i + j) : 0);
            }
            court.feed(w[0], w[1], w[2], w[3], w[4]);
        }
        court.truncate(text.length());
    }

    static MemoryCourt court(String text) {
        MemoryCourt court = new MemoryCourt();
        input(court, text);
        if (court.parse() < 0) {
            equal("error " + court.errorCode() + " at " + court.errorOffset() + " in " + text, "no error");
        }
        return court;
    }

    /** The answer of parse, the code and the offset. */
    static String parsed(String text) {
        MemoryCourt court = new MemoryCourt();
        input(court, text);
        return court.parse() + " " + court.errorCode() + " " + court.errorOffset();
    }

    static String output(MemoryCourt court) {
        StringBuilder b = new StringBuilder();
        int sign = court.outputByte(0);
        while (sign != MemoryCourt.NONE) {
            b.append((char) sign);
            sign = court.outputByte(b.length());
        }
        return b.toString();
    }

    /** All counts, one behind the other. */
    static String counts(MemoryCourt court) {
        StringBuilder b = new StringBuilder();
        for (int what = 0; what <= 20; what++) {
            b.append(what > 0 ? " " : "").append(court.count(what));
        }
        return b.toString();
    }

    /** The loan of each page as one digit, or a point if it is free. */
    static String pages(MemoryCourt court) {
        StringBuilder b = new StringBuilder();
        for (int page = 0; page < court.count(0); page++) {
            b.append(court.page(page) < 0 ? "." : "" + court.page(page));
        }
        return b.toString();
    }

    static String loanOf(MemoryCourt court, int loan) {
        StringBuilder b = new StringBuilder();
        for (int what = 0; what <= 7; what++) {
            b.append(what > 0 ? " " : "").append(court.loan(loan, what));
        }
        return b.toString();
    }

    static String claimOf(MemoryCourt court, int claim) {
        StringBuilder b = new StringBuilder();
        for (int what = 0; what <= 6; what++) {
            b.append(what > 0 ? " " : "").append(court.claim(claim, what));
        }
        return b.toString();
    }

    static String fineOf(MemoryCourt court, int fine) {
        StringBuilder b = new StringBuilder();
        for (int what = 0; what <= 7; what++) {
            b.append(what > 0 ? " " : "").append(court.fine(fine, what));
        }
        return b.toString();
    }

    static String processOf(MemoryCourt court, int process) {
        StringBuilder b = new StringBuilder();
        for (int what = 0; what <= 9; what++) {
            b.append(what > 0 ? " " : "").append(court.process(process, what));
        }
        return b.toString();
    }

    /** Runs every test of a class: its static methods without parameters and answers. */
    static void tests(Class<?> c) throws ReflectiveOperationException {
        Method[] methods = c.getDeclaredMethods();
        Arrays.sort(methods, Comparator.comparing(Method::getName));
        int count = 0;
        for (Method m : methods) {
            if (Modifier.isStatic(m.getModifiers()) && m.getParameterCount() == 0 && m.getReturnType() == void.class
                    && !m.isSynthetic()) {
                at(c.getName() + "." + m.getName());
                m.setAccessible(true);
                m.invoke(null);
                count++;
            }
        }
        finish(c.getName() + ", " + count + " tests");
    }

    /** Lets as many ticks pass, in as many calls as that needs. */
    static int pass(MemoryCourt court, int ticks) {
        int met = 0;
        for (int left = ticks; left > 0; left -= 500) {
            met += court.run(Math.min(left, 500));
        }
        return met;
    }

    private static String caller() {
        for (StackTraceElement e : new Throwable().getStackTrace()) {
            if (!e.getClassName().equals("Check")) {
                return " (" + e.getFileName() + ":" + e.getLineNumber() + ")";
            }
        }
        return "";
    }

    static void finish(String test) {
        System.out.println(test + ": " + (wrong == 0 ? "all answers are as due" : wrong + " answers are not as due"));
        if (wrong != 0) {
            System.exit(1);
        }
    }
}
