import java.io.IOException;
import java.lang.reflect.Method;
import java.nio.file.Files;
import java.nio.file.Path;
import java.util.ArrayList;
import java.util.Arrays;
import java.util.List;
import java.util.Set;
import java.util.TreeSet;
import java.util.regex.Matcher;
import java.util.regex.Pattern;

/** README.md says what is so. It is run in the project's own directory. */
public final class ReadmeTest {
    private static final Pattern CALL = Pattern.compile("store\\.(\\w+)\\((.*)\\); +// (\\w+).*");
    private static final Pattern TEST = Pattern.compile("`(\\w+Test)`");

    private static int wrong;

    public static void main(String[] args) throws Exception {
        List<String> lines = Files.readAllLines(Path.of("README.md"));
        callsAnswerAsToldThere(lines);
        eachTestIsNamedThere(lines);
        System.out.println(wrong == 0 ? "README.md is as due" : wrong + " wrong");
        if (wrong != 0) {
            System.exit(1);
        }
    }

    private static void due(String what, Object got, Object want) {
        if (!got.equals(want)) {
            wrong++;
            System.out.println(what + ": " + got + ", due is " + want);
        }
    }

    private static void callsAnswerAsToldThere(List<String> lines) throws ReflectiveOperationException {
        SealedGroups store = new SealedGroups();
        int calls = 0;
        for (String line : lines) {
            if (!line.startsWith("store.")) {
                continue;
            }
            Matcher call = CALL.matcher(line);
            due("form of " + line, call.matches(), true);
            if (call.matches()) {
                due(line, answer(store, call.group(1), call.group(2)), number(call.group(3)));
                calls++;
            }
        }
        due("there are calls", calls > 0, true);
    }

    private static Object answer(SealedGroups store, String name, String told) throws ReflectiveOperationException {
        List<Object> arguments = new ArrayList<>();
        for (String argument : told.isEmpty() ? new String[0] : told.split(", ")) {
            arguments.add(number(argument));
        }
        Class<?>[] types = new Class<?>[arguments.size()];
        Arrays.fill(types, int.class);
        Method method = SealedGroups.class.getMethod(name, types);
        return method.invoke(store, arguments.toArray());
    }

    /** A number, a sign, or the name of a constant of the class. */
    private static Integer number(String told) throws ReflectiveOperationException {
        if (told.startsWith("'")) {
            return (int) told.charAt(1);
        }
        if (told.matches("-?[0-9]+")) {
            return Integer.valueOf(told);
        }
        return SealedGroups.class.getField(told).getInt(null);
    }

    private static void eachTestIsNamedThere(List<String> lines) throws IOException {
        Set<String> named = new TreeSet<>();
        Matcher test = TEST.matcher(String.join("\n", lines));
        while (test.find()) {
            named.add(test.group(1));
        }
        Set<String> there = new TreeSet<>();
        try (var files = Files.list(Path.of("src/test/java"))) {
            files.map(file -> file.getFileName().toString()).filter(name -> name.endsWith("Test.java"))
                    .forEach(name -> there.add(name.replace(".java", "")));
        }
        due("tests named", named, there);
    }
}
