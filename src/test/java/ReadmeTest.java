import java.io.IOException;
import java.lang.reflect.Method;
import java.nio.file.Files;
import java.nio.file.Path;
import java.util.TreeSet;
import java.util.regex.Matcher;
import java.util.regex.Pattern;

/** The calls that README.md shows, in their order on one object: each answers what stands behind it. */
public final class ReadmeTest {
    private static final Pattern CALL = Pattern.compile("x\\.(\\w+)\\(([^)]*)\\); +// (-?\\w+): .*");
    private static final Pattern NAME = Pattern.compile("`(\\w+)`");

    private static int wrong = 0;

    private static void due(String what, String got, String want) {
        if (!got.equals(want)) {
            wrong++;
            System.out.println(what + " answered " + got + ", due is " + want);
        }
    }

    private static Method named(String name) {
        for (Method m : FourCars.class.getDeclaredMethods()) {
            if (m.getName().equals(name)) {
                return m;
            }
        }
        throw new IllegalStateException("there is no " + name);
    }

    private static Object argument(String told) {
        return told.equals("true") || told.equals("false") ? (Object) Boolean.valueOf(told) : Integer.decode(told);
    }

    private static String answer(FourCars x, String name, String told) throws ReflectiveOperationException {
        String[] texts = told.split(", *");
        Object[] arguments = new Object[texts.length];
        for (int i = 0; i < texts.length; i++) {
            arguments[i] = argument(texts[i]);
        }
        return String.valueOf(named(name).invoke(x, arguments));
    }

    private static int runCalls(String[] lines) throws ReflectiveOperationException {
        FourCars x = new FourCars();
        int calls = 0;
        for (String line : lines) {
            Matcher m = CALL.matcher(line);
            if (m.matches()) {
                calls++;
                due(m.group(1) + "(" + m.group(2) + ")", answer(x, m.group(1), m.group(2)), m.group(3));
            } else if (line.startsWith("x.")) {
                due(line, "nothing that can be read", "a call and its answer");
            }
        }
        return calls;
    }

    /** Every method of the class stands in the first column of the table of calls. */
    private static void checkNames(String[] lines) {
        TreeSet<String> told = new TreeSet<>();
        for (String line : lines) {
            if (line.startsWith("| `")) {
                Matcher m = NAME.matcher(line.substring(0, line.indexOf('|', 1)));
                while (m.find()) {
                    told.add(m.group(1));
                }
            }
        }
        TreeSet<String> names = new TreeSet<>();
        for (Method m : FourCars.class.getMethods()) {
            if (m.getDeclaringClass() == FourCars.class) {
                names.add(m.getName());
            }
        }
        due("the table of calls", told.toString(), names.toString());
    }

    public static void main(String[] args) throws IOException, ReflectiveOperationException {
        String[] lines = Files.readString(Path.of("README.md")).split("\n");
        int calls = runCalls(lines);
        due("that README.md shows calls", String.valueOf(calls > 20), "true");
        checkNames(lines);
        System.out.println(calls + " calls of README.md, " + wrong + " not as due");
        if (wrong != 0) {
            System.exit(1);
        }
    }
}
