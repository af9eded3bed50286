import java.io.IOException;
import java.lang.reflect.Field;
import java.lang.reflect.Method;
import java.lang.reflect.Modifier;
import java.nio.file.Files;
import java.nio.file.Path;
import java.util.ArrayList;
import java.util.List;
import java.util.TreeSet;
import java.util.regex.Matcher;
import java.util.regex.Pattern;

/** The face of FourCars, and what LANGUAGE.md asks of its source as far as a reader of lines can tell. */
public final class LanguageTest {
    private static final List<String> FACE = List.of(
        "feed int int int int int : int", "end int : boolean", "text int : int", "fault int : int",
        "one int int int : int", "set int int int : boolean", "seconds int : int", "car int int : int",
        "person int int : int", "cost int int int : int", "sums int : int", "thought int int : int",
        "better int int : int", "best int : int", "mornings int int int int : int", "fun int int : int",
        "places int int : int", "zones int int : int", "image boolean : boolean", "look int : int");
    private static final String[] RULED_OUT = {
        "\\bthrow\\b", "\\btry\\b", "\\bcatch\\b", "\\bsynchronized\\b", "\\bassert\\b", "->", "::", "@",
        "\\bimport\\b", "\\bpackage\\b", "\\bstatic\\s*\\{", "Exact\\b", "\\bSystem\\.(?!arraycopy)", "\\bThread\\b",
        "\\bString\\.", "\\b(?:Integer|Long|Math)\\.(?!(?:abs|compare|max|min)\\()", "\\bObject\\b", "\\bequals\\b",
        "\\bhashCode\\b", "\\btoString\\b", "[^\\x00-\\x7f]"};
    private static final Pattern METHOD = Pattern.compile("^ +(?:[a-z]+ )*(?:int|boolean|void)(?:\\[\\])? (\\w+)\\((.*)\\) \\{$");

    private static int wrong = 0;

    private static void due(String what, boolean holds) {
        if (!holds) {
            wrong++;
            System.out.println(what);
        }
    }

    private static String told(Method m) {
        StringBuilder s = new StringBuilder(m.getName());
        for (Class<?> type : m.getParameterTypes()) {
            s.append(' ').append(type.getName());
        }
        return s.append(" : ").append(m.getReturnType().getName()).toString();
    }

    private static void checkFace() {
        TreeSet<String> seen = new TreeSet<>();
        TreeSet<String> names = new TreeSet<>();
        for (Method m : FourCars.class.getDeclaredMethods()) {
            if (Modifier.isPrivate(m.getModifiers())) {
                names.add(m.getName());
            } else {
                due(m + " is not public", m.getModifiers() == Modifier.PUBLIC);
                seen.add(told(m));
            }
        }
        due("the methods are " + seen, seen.equals(new TreeSet<>(FACE)));
        for (String line : FACE) {
            due("a private method is named as " + line, !names.contains(line.substring(0, line.indexOf(' '))));
        }
        for (Field f : FourCars.class.getDeclaredFields()) {
            boolean isNone = f.getName().equals("NONE");
            due(f + " shows", isNone == Modifier.isPublic(f.getModifiers()) && (isNone || Modifier.isPrivate(f.getModifiers())));
        }
        due("the constructor", FourCars.class.getDeclaredConstructors().length == 1);
        due("public and final", FourCars.class.getModifiers() == (Modifier.PUBLIC | Modifier.FINAL));
        Class<?>[] inside = FourCars.class.getDeclaredClasses();
        due(inside.length + " classes inside", inside.length <= 11);
        for (Class<?> c : inside) {
            due(c + " is not private and static", Modifier.isStatic(c.getModifiers()) && !Modifier.isPublic(c.getModifiers()));
            checkFields(c);
        }
        checkFields(FourCars.class);
    }

    private static void checkFields(Class<?> c) {
        int count = 0;
        for (Field f : c.getDeclaredFields()) {
            if (Modifier.isStatic(f.getModifiers())) {
                due(f + " is static and may change", Modifier.isFinal(f.getModifiers()));
            } else {
                count++;
            }
        }
        due(c + " has " + count + " fields", count <= 20);
    }

    private static String withoutComments(String source) {
        return source.replaceAll("(?s)/\\*.*?\\*/", "").replaceAll("//[^\n]*", "");
    }

    private static void checkSource(String source) {
        String code = withoutComments(source);
        for (String form : RULED_OUT) {
            Matcher m = Pattern.compile(form).matcher(code);
            due("the source has " + form, !m.find());
        }
    }

    private static void checkMethods(String source) {
        List<String> lines = new ArrayList<>(List.of(source.split("\n")));
        for (int i = 0; i < lines.size(); i++) {
            Matcher m = METHOD.matcher(lines.get(i));
            if (m.matches()) {
                String indent = lines.get(i).substring(0, lines.get(i).indexOf(lines.get(i).trim()));
                int end = i;
                while (end < lines.size() && !lines.get(end).equals(indent + "}")) {
                    end++;
                }
                due(m.group(1) + " has " + (end - i + 1) + " lines", end - i + 1 <= 60);
                due(m.group(1) + " takes " + m.group(2), m.group(2).split(",").length <= 7);
            }
        }
    }

    public static void main(String[] args) throws IOException {
        checkFace();
        String source = Files.readString(Path.of("src/main/java/FourCars.java"));
        checkSource(source);
        checkMethods(source);
        System.out.println(wrong == 0 ? "the source keeps to the rules" : wrong + " rules are broken");
        if (wrong != 0) {
            System.exit(1);
        }
    }
}
