import java.io.IOException;
import java.lang.reflect.Array;
import java.lang.reflect.Field;
import java.lang.reflect.Modifier;
import java.nio.charset.StandardCharsets;
import java.nio.file.Files;
import java.nio.file.Path;
import java.util.Collections;
import java.util.IdentityHashMap;
import java.util.Set;

/** What an object holds stays small, and no call makes objects but for the row of lines as it grows. */
public final class RoomTest {
    private static final Due due = new Due();

    private final Set<Object> seen = Collections.newSetFromMap(new IdentityHashMap<>());
    private long elements = 0;

    public static void main(String[] args) throws IOException, IllegalAccessException {
        room("a new object", new BeastRoad(), 100, 4_000);
        room("one of each thing", Scene.full(), 100, 4_000);
        room("the most lines", withMostLines(), 100, 64_000);
        whereObjectsAreMade();
        due.end();
    }

    /** A day's end makes a line for each day so far, as the feed changes from day to day. */
    private static BeastRoad withMostLines() {
        BeastRoad road = new BeastRoad();
        road.beast(0, 0);
        for (int feed = 2; road.count(3) + road.count(0) < 20_000 && road.day() != BeastRoad.NONE; feed++) {
            road.kind(0, feed % 2 + 1, 1);
        }
        due.yes("some 20,000 lines were made; that", road.count(3) > 19_700);
        return road;
    }

    private static void room(String name, BeastRoad road, long mostObjects, long mostElements)
            throws IllegalAccessException {
        RoomTest room = new RoomTest();
        room.walk(road);
        due.yes(name + " holds " + room.seen.size() + " objects; few enough", room.seen.size() <= mostObjects);
        due.yes(name + " holds " + room.elements + " fields and elements; few enough", room.elements <= mostElements);
    }

    private void walk(Object object) throws IllegalAccessException {
        if (object == null || !seen.add(object)) {
            return;
        }
        if (object.getClass().isArray()) {
            walkRow(object);
            return;
        }
        for (Field field : object.getClass().getDeclaredFields()) {
            if (!Modifier.isStatic(field.getModifiers())) {
                elements++;
                field.setAccessible(true);
                if (!field.getType().isPrimitive()) {
                    walk(field.get(object));
                }
            }
        }
    }

    private void walkRow(Object row) throws IllegalAccessException {
        elements += Array.getLength(row);
        if (row instanceof Object[] objects) {
            for (Object object : objects) {
                walk(object);
            }
        }
    }

    /** With a field or in the program's constructor, and so once for each BeastRoad; nowhere else. */
    private static void whereObjectsAreMade() throws IOException {
        Path path = Path.of("src/main/java/BeastRoad.java");
        String code = new String(Files.readAllBytes(path), StandardCharsets.ISO_8859_1);
        int begin = code.indexOf("public BeastRoad() {");
        int end = code.indexOf("\n    }\n", begin);
        due.yes("the constructor is found; that", begin >= 0 && end > begin);
        String others = code.substring(0, begin) + code.substring(end);
        for (String line : others.split("\n")) {
            boolean field = line.trim().startsWith("private ") && line.endsWith(";");
            due.yes(line + " is with a field; that", field || !line.matches(".*\\bnew [A-Za-z].*"));
        }
        due.is("rows that grow", code.split("copyOf", -1).length - 1, 1);
        for (String maker : new String[] {"StringBuilder", "ArrayList", ".substring(", ".clone(", ".toCharArray("}) {
            due.no(maker + " is used", code.contains(maker));
        }
    }
}
