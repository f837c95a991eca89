import java.lang.reflect.InvocationTargetException;
import java.lang.reflect.Method;
import java.util.ArrayList;
import java.util.Comparator;
import java.util.List;
import java.util.function.Supplier;
import java.util.function.ToIntFunction;

/** What the tests share. Each method without arguments of a class that extends this is one test. */
abstract class Checks {
    static final int INVALID = -1000001;
    static final int NOT_POSSIBLE = -1000002;
    static final int LIMIT = -1000003;
    static final int NOT_FOUND = -1000004;

    private static String test = "";
    private static int wrong;

    /** Runs each test of the class, and ends with exit code 1 if one fails. */
    static void runAll(Class<?> tests) {
        int passed = 0;
        int failed = 0;
        for (Method method : testsOf(tests)) {
            if (passes(method)) {
                passed++;
            } else {
                failed++;
            }
        }
        System.out.println(tests.getSimpleName() + ": " + passed + " passed, " + failed + " failed");
        if (failed != 0 || passed == 0) {
            System.exit(1);
        }
    }

    private static List<Method> testsOf(Class<?> tests) {
        List<Method> methods = new ArrayList<>();
        for (Method method : tests.getDeclaredMethods()) {
            if (method.getParameterCount() == 0 && !method.isSynthetic()) {
                methods.add(method);
            }
        }
        methods.sort(Comparator.comparing(Method::getName));
        return methods;
    }

    private static boolean passes(Method method) {
        test = method.getDeclaringClass().getSimpleName() + "." + method.getName();
        wrong = 0;
        try {
            method.setAccessible(true);
            method.invoke(null);
        } catch (InvocationTargetException | IllegalAccessException e) {
            wrong++;
            System.out.println(test + ": " + (e.getCause() == null ? e : e.getCause()));
        }
        return wrong == 0;
    }

    static void due(int got, int want) {
        due("the call", got, want);
    }

    static void due(String call, Object got, Object want) {
        if (!got.equals(want)) {
            wrong++;
            System.out.println(test + ", line " + line() + ": " + call + " answered " + got + ", due is " + want);
        }
    }

    /** The line of the test itself, behind the helpers of this class. */
    private static int line() {
        return StackWalker.getInstance().walk(frames -> frames
                .filter(frame -> !frame.getClassName().startsWith("Checks"))
                .findFirst().map(StackWalker.StackFrame::getLineNumber).orElse(0));
    }

    static void typeAll(SealedGroups x, String text) {
        x.clearText();
        for (int i = 0; i < text.length(); i++) {
            due("type in " + text, x.type(text.charAt(i)), i + 1);
        }
    }

    /** Plays a text that has no fault. */
    static void played(SealedGroups x, String text, int orders) {
        typeAll(x, text);
        due("play " + text, x.play(), orders);
    }

    static void faultIs(SealedGroups x, String text, int position, int reason, int cause) {
        typeAll(x, text);
        due("fault(0) of " + text, x.fault(0), position);
        due("fault(1) of " + text, x.fault(1), reason);
        due("fault(2) of " + text, x.fault(2), cause);
    }

    static void noFault(SealedGroups x, String text) {
        faultIs(x, text, NOT_FOUND, NOT_FOUND, NOT_FOUND);
    }

    /** A new object on which the text was played. */
    static SealedGroups after(String text) {
        SealedGroups x = new SealedGroups();
        typeAll(x, text);
        due("play " + text, x.play() >= 0, true);
        x.clearText();
        return x;
    }

    /** Makes checkpoints until there are so many records. */
    static SealedGroups filled(SealedGroups x, int records) {
        for (int i = x.count(0); i < records; i++) {
            due("checkpoint", x.checkpoint() > 0, true);
        }
        due("records", x.count(0), records);
        return x;
    }

    /** The call answers the error, and nothing that can be seen changes, states undone included. */
    static void refused(Supplier<SealedGroups> made, ToIntFunction<SealedGroups> call, int error) {
        for (int undone = 0; undone <= 4; undone++) {
            SealedGroups plain = made.get();
            SealedGroups tried = made.get();
            due("the refused call", call.applyAsInt(tried), error);
            for (int i = 0; i < undone; i++) {
                due("undo", tried.undo(), plain.undo());
            }
            due("all that can be seen, undone " + undone, seen(tried), seen(plain));
        }
    }

    /** What the looking calls answer; of the records the last ones, for an object has 512 calls. */
    static String seen(SealedGroups x) {
        StringBuilder seen = new StringBuilder();
        for (int what = 0; what < 13; what++) {
            seen.append(" count ").append(what).append('=').append(x.count(what));
        }
        for (int what = 0; what < 9; what++) {
            for (int page = 0; page < 8; page++) {
                seen.append(" pageOf ").append(page).append(' ').append(what).append('=').append(x.pageOf(page, what));
            }
            for (int record = Math.max(1, x.count(2) - 9); record <= x.count(2) + 1; record++) {
                seen.append(" recordOf ").append(record).append(' ').append(what).append('=')
                        .append(x.recordOf(record, what));
            }
        }
        for (int what = 0; what < 4; what++) {
            for (int group = 0; group < 4; group++) {
                seen.append(" groupOf ").append(group).append(' ').append(what).append('=')
                        .append(x.groupOf(group, what));
            }
        }
        for (int what = 0; what < 18; what++) {
            seen.append(" would ").append(what).append('=').append(x.would(0, what)).append(',').append(x.would(1, what));
        }
        for (int what = 0; what < 3; what++) {
            seen.append(" fault ").append(what).append('=').append(x.fault(what));
        }
        return seen.toString();
    }
}
