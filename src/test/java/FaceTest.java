import java.io.IOException;
import java.lang.reflect.Constructor;
import java.lang.reflect.Field;
import java.lang.reflect.Method;
import java.lang.reflect.Modifier;
import java.nio.charset.StandardCharsets;
import java.nio.file.Files;
import java.nio.file.Path;
import java.util.Arrays;
import java.util.Set;
import java.util.TreeSet;
import java.util.regex.Matcher;
import java.util.regex.Pattern;

/** The public face is the document's and no more, and the source keeps to the part of Java it may use. */
public final class FaceTest {
    private static final Due due = new Due();

    private static final String[] FACE = {
        "boolean kind(int,int,int)", "int beast(int,int)", "boolean gone(int,int)", "boolean here(int,int,int)",
        "int ration(int,int)", "int day()", "int line(int,int)", "int booked(int)", "boolean load(int,int)",
        "boolean bar(int,int,boolean)", "int wagon(int,int)", "int order(int)", "int town(int,int,int)",
        "boolean way(int,int,int)", "boolean fodder(int)", "int tour(int,int)", "int stop(int,int,int)",
        "int feed(int,int,int,int,int)", "boolean end(int)", "int fault()", "boolean law(int)", "int may(int,int)",
        "int fee(int)", "boolean wall(int,boolean)", "boolean away(int,int)", "int hour()", "int look(int)",
        "long maybe(int)", "long chance(int,int)", "int where()", "int count(int)"};

    private static final int PROMISES = 32;
    private static final Class<?>[] EDGES = {DaysEdgesTest.class, WagonsEdgesTest.class, FairsEdgesTest.class,
        LawsEdgesTest.class, FieldEdgesTest.class};

    // Words and signs that the language rules leave out, with and without a word's bounds.
    private static final String[] LEFT_OUT = {
        "\\bthrow\\b", "\\btry\\b", "\\bcatch\\b", "\\bsynchronized\\b", "\\bassert\\b", "->", "::", "Exact\\b",
        "\\bprotected\\b", "\\bpackage\\b", "\\bhashCode\\b", "\\btoString\\b", "\\bSystem\\.(?!arraycopy\\b)",
        "\\bRandom\\b", "\\bThread\\b", "\\bimport (?!java\\.util\\.Arrays;)"};

    public static void main(String[] args) throws IOException {
        face();
        nested();
        source();
        eachPromiseHasATest();
        due.end();
    }

    private static void face() {
        Class<?> road = BeastRoad.class;
        due.is("public and final", road.getModifiers(), Modifier.PUBLIC | Modifier.FINAL);
        due.is("NONE", BeastRoad.NONE, -1);
        Set<String> told = new TreeSet<>(Arrays.asList(FACE));
        Set<String> found = new TreeSet<>();
        for (Method method : road.getDeclaredMethods()) {
            if (Modifier.isPublic(method.getModifiers())) {
                due.no(method + " is of objects", Modifier.isStatic(method.getModifiers()));
                found.add(written(method));
            } else {
                due.yes(method + " is private", Modifier.isPrivate(method.getModifiers()));
            }
        }
        due.yes("the methods " + found + " are " + told, found.equals(told));
        for (Field field : road.getDeclaredFields()) {
            int wanted = field.getName().equals("NONE") ? Modifier.PUBLIC : Modifier.PRIVATE;
            due.yes(field + " is seen as it should be", (field.getModifiers() & wanted) != 0);
            due.yes(field + " is final", Modifier.isFinal(field.getModifiers()));
        }
        Constructor<?>[] constructors = road.getDeclaredConstructors();
        due.is("constructors", constructors.length, 1);
        due.is("without parameters", constructors[0].getParameterCount(), 0);
        due.yes("public", Modifier.isPublic(constructors[0].getModifiers()));
    }

    private static void nested() {
        due.yes("at most twelve classes", BeastRoad.class.getDeclaredClasses().length <= 11);
        Set<String> names = new TreeSet<>();
        for (String method : FACE) {
            names.add(method.substring(method.indexOf(' ') + 1, method.indexOf('(')));
        }
        for (Class<?> inside : BeastRoad.class.getDeclaredClasses()) {
            due.yes(inside + " is static", Modifier.isStatic(inside.getModifiers()));
            due.yes(inside + " is private", Modifier.isPrivate(inside.getModifiers()));
            for (Method method : inside.getDeclaredMethods()) {
                due.no(method + " has a name of its own", names.contains(method.getName()));
                due.yes(method + " has few parameters", method.getParameterCount() <= 7);
            }
            due.yes(inside + " has few fields", inside.getDeclaredFields().length <= 20);
            for (Field field : inside.getDeclaredFields()) {
                due.no(field + " is of objects", Modifier.isStatic(field.getModifiers()));
            }
        }
    }

    private static void source() throws IOException {
        Path path = Path.of("src/main/java/BeastRoad.java");
        String code = new String(Files.readAllBytes(path), StandardCharsets.ISO_8859_1)
                .replaceAll("(?s)/\\*.*?\\*/", "").replaceAll("//[^\n]*", "");
        for (String left : LEFT_OUT) {
            due.no(left + " is in the source", Pattern.compile(left).matcher(code).find());
        }
        methodsAreShort(code);
    }

    /** From a line that begins a method to the bracket that stands just below its first letter. */
    private static void methodsAreShort(String code) {
        Pattern method = Pattern.compile("(?s)\n( {4}| {8})(?! )([^\n;=]*\\) \\{\n.*?)\n\\1\\}");
        Matcher found = method.matcher(code);
        int methods = 0;
        while (found.find()) {
            String text = found.group(2);
            due.yes(text.substring(0, text.indexOf('\n')) + " is short", text.split("\n").length <= 60);
            methods++;
        }
        due.yes("more methods than the face has are found; that", methods > FACE.length);
    }

    private static void eachPromiseHasATest() {
        Set<String> numbers = new TreeSet<>();
        for (Class<?> tests : EDGES) {
            for (Method method : tests.getDeclaredMethods()) {
                numbers.add(method.getName().substring(0, Math.min(3, method.getName().length())));
            }
        }
        for (int promise = 1; promise <= PROMISES; promise++) {
            due.yes("promise " + promise + " has a test", numbers.contains(String.format("p%02d", promise)));
        }
    }

    private static String written(Method method) {
        StringBuilder text = new StringBuilder();
        text.append(method.getReturnType().getSimpleName()).append(' ').append(method.getName()).append('(');
        String comma = "";
        for (Class<?> type : method.getParameterTypes()) {
            text.append(comma).append(type.getSimpleName());
            comma = ",";
        }
        return text.append(')').toString();
    }
}
