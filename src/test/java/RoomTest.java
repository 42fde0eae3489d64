import java.io.IOException;
import java.lang.reflect.Array;
import java.lang.reflect.Field;
import java.lang.reflect.Modifier;
import java.nio.file.Files;
import java.nio.file.Path;
import java.util.Collections;
import java.util.IdentityHashMap;
import java.util.Set;

/** All calls of a run live in one room: a desk is small, and no call makes it greater or makes a new object. */
public final class RoomTest {
    private static final int MOST_OBJECTS = 400, MOST_ELEMENTS = 14000;
    private static final Check CHECK = new Check();

    private final Set<Object> seen = Collections.newSetFromMap(new IdentityHashMap<>());
    private int elements;

    public static void main(String[] args) throws IllegalAccessException, IOException {
        madeWithTheObject(Files.readString(Path.of("src/main/java/LinkageCurves.java")));
        LinkageCurves desk = new LinkageCurves();
        RoomTest fresh = new RoomTest();
        fresh.enter(desk);
        CHECK.holds(fresh.seen.size() + " objects", fresh.seen.size() <= MOST_OBJECTS);
        CHECK.holds(fresh.elements + " elements", fresh.elements <= MOST_ELEMENTS);
        for (int round = 0; round < 3; round++) {
            useAll(desk);
            RoomTest used = new RoomTest();
            used.enter(desk);
            CHECK.due("objects", used.seen.size(), fresh.seen.size());
            CHECK.due("elements", used.elements, fresh.elements);
            used.seen.removeAll(fresh.seen);
            CHECK.due("objects that a call made", used.seen.size(), 0);
        }
        CHECK.end();
    }

    /** Counts what can be reached from an object, each once. */
    private void enter(Object object) throws IllegalAccessException {
        if (object == null || object instanceof String || !seen.add(object)) {
            return;
        }
        if (object.getClass().isArray()) {
            elements += Array.getLength(object);
            for (int i = 0; i < Array.getLength(object) && !object.getClass().getComponentType().isPrimitive(); i++) {
                enter(Array.get(object, i));
            }
            return;
        }
        for (Field f : object.getClass().getDeclaredFields()) {
            if (!Modifier.isStatic(f.getModifiers())) {
                elements++;
                f.setAccessible(true);
                if (!f.getType().isPrimitive()) {
                    enter(f.get(object));
                }
            }
        }
    }

    /** What a call makes and lets go again is counted, too: so only fields and the constructor may say new. */
    private static void madeWithTheObject(String source) {
        for (String line : source.split("\n")) {
            if (line.matches(".*\\b(new|clone|copyOf|copyOfRange|substring|toCharArray)\\b.*") && !line.matches(" *(/?\\*|//).*")) {
                CHECK.holds(line.trim(), line.matches(" +private (final )?\\S+ \\w+ = new .*;| {12}rows\\[i\\] = new Row\\(\\);"));
            }
        }
    }

    private static void read(LinkageCurves x, String text, int due) {
        for (int i = 0; i < text.length(); i += 8) {
            String piece = text.substring(i, Math.min(i + 8, text.length()));
            x.feed(piece.length(), Desk.packed(piece));
        }
        CHECK.due("read of " + text, x.read(), due);
    }

    private static void useAll(LinkageCurves x) {
        read(x, Rich.UNDRIVEN, Rich.PARTS);
        read(x, "", 0);
        read(x, "joint", -12);
        read(x, Rich.DRIVEN, Rich.PARTS);
        x.place();
        x.part(0, 0);
        x.needed(0);
        x.together(0, 1);
        x.cluster(0);
        x.mobility();
        x.rank(0);
        x.motion(0, 2, 0);
        x.pose(3);
        x.at(3, 0);
        x.why(3);
        x.order(0, 0);
        x.flip(3);
        x.trace(4);
        x.curve(0, 0);
        x.told(1);
        x.ratio(0, 1, 0);
        x.lock();
        x.fourBars(3, 4, 5, 6);
        x.ask(Rich.SHAFT, 2);
        x.trail(0);
        x.is(0, 0);
        x.as(0, 0);
        for (int row = 0; row < 8; row++) {
            x.lay(row, row % 4, 300);
            x.put(row, 1, row);
        }
        x.get(0, 0);
        x.move(0, 0, 4, 0, 300);
        x.keep(3, 0);
        x.drop(7);
        x.count(7);
        x.status();
        x.digest();
    }
}
