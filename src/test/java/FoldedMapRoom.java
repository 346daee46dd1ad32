import java.lang.reflect.Array;
import java.lang.reflect.Field;
import java.lang.reflect.Modifier;
import java.util.ArrayDeque;
import java.util.ArrayList;
import java.util.Collections;
import java.util.Deque;
import java.util.IdentityHashMap;
import java.util.List;
import java.util.Set;

/**
 * All calls of a run live in one room: what hangs on an object is small, and no call adds to it.
 * (That no call makes what it lets go again is seen by FoldedMapLanguage.)
 */
public final class FoldedMapRoom {
    private static final int MOST_OBJECTS = 100, MOST_PARTS = 1200;

    /** How many objects and arrays hang on one, and how many fields and elements these have. */
    private static int[] sizeOf(Object root) throws IllegalAccessException {
        Set<Object> found = Collections.newSetFromMap(new IdentityHashMap<>());
        Deque<Object> open = new ArrayDeque<>();
        found.add(root);
        open.add(root);
        int parts = 0;
        while (!open.isEmpty()) {
            for (Object part : partsOf(open.remove())) {
                parts++;
                boolean isBoxed = part == null || part.getClass().getName().startsWith("java.lang.");
                if (!isBoxed && found.add(part)) {
                    open.add(part);
                }
            }
        }
        return new int[] {found.size(), parts};
    }

    private static List<Object> partsOf(Object whole) throws IllegalAccessException {
        List<Object> parts = new ArrayList<>();
        if (whole.getClass().isArray()) {
            for (int i = 0; i < Array.getLength(whole); i++) {
                parts.add(Array.get(whole, i));
            }
            return parts;
        }
        for (Field field : whole.getClass().getDeclaredFields()) {
            if (!Modifier.isStatic(field.getModifiers())) {
                field.setAccessible(true);
                parts.add(field.get(whole));
            }
        }
        return parts;
    }

    /** Something of every call, on the largest map. */
    private static void use(FoldedMap m) {
        Check.due("map()", Check.mapOf(m, "map 4 4;worth 15 9;quarrel 0 15;tear 9;"), 4);
        for (int i = 0; i < 12; i++) {
            for (int number : new int[] {i, 4, 1, 5, 2, 7}) {
                Check.fold(m, number);
            }
            m.keep(i & 1);
            m.saw(i, 15);
            m.reach(0, i + 1, -1);
            m.serves(i, -1);
            m.fits(2);
            for (int kind = 0; kind < 6; kind++) {
                m.rate(kind, i);
            }
            m.undo();
            m.day();
            m.back(i & 1);
            m.bent(i, i + 1);
            m.touch(i, i + 1);
            m.packet(4);
            m.cell(i, 5);
            m.at(0, 0, i);
            m.count(5);
            m.trace();
            m.undo();
            m.day();
        }
        m.forget();
        m.type(32, 1);
        m.clear();
    }

    public static void main(String[] args) throws IllegalAccessException {
        Check.sentence("How the state is held inside the object is free");
        FoldedMap m = new FoldedMap();
        int[] before = sizeOf(m);
        use(m);
        int[] after = sizeOf(m);
        Check.due("too many objects", Math.max(before[0], MOST_OBJECTS), MOST_OBJECTS);
        Check.due("too many fields and elements", Math.max(before[1], MOST_PARTS), MOST_PARTS);
        Check.due("objects that calls have added", after[0] - before[0], 0);
        Check.due("fields and elements that calls have added", after[1] - before[1], 0);
        System.out.println("an object is " + before[0] + " objects and arrays, " + before[1] + " fields and elements");
        Check.end();
    }
}
