import java.lang.reflect.Array;
import java.lang.reflect.Field;
import java.lang.reflect.Modifier;
import java.util.Collections;
import java.util.IdentityHashMap;
import java.util.Set;

/** The room of a mill: it is small when it is made, and no call takes more. */
public final class RoomTest {
    private static final Check CHECK = new Check("RoomTest");
    private static final int MOST_OBJECTS = 100;
    private static final int MOST_ELEMENTS = 4000;

    private final Set<Object> objects = Collections.newSetFromMap(new IdentityHashMap<>());
    private int elements = 0;

    public static void main(String[] args) throws IllegalAccessException {
        EscapeMill mill = Programs.mill();
        RoomTest fresh = of(mill);
        System.out.println("RoomTest: " + fresh.objects.size() + " objects, " + fresh.elements + " fields and elements");
        CHECK.holds(fresh.objects.size() + " objects", fresh.objects.size() <= MOST_OBJECTS);
        CHECK.holds(fresh.elements + " fields and elements", fresh.elements <= MOST_ELEMENTS);

        String busy = "NEW 2; NEW 3; PUTR 3 2 0; STORE 3 1; LOCK 2; UNLOCK 2; SHOW 0; CALL 1 2 3 #0; JUMP #0";
        for (int m = 0; m < 5; m++) {
            Programs.write(mill, m, "(2) " + busy);
        }
        Answers.of(mill);
        RoomTest used = of(mill);
        CHECK.holds("the same objects after use", used.objects.equals(fresh.objects));
        CHECK.due("fields and elements after use", used.elements, fresh.elements);
        CHECK.end();
    }

    private static RoomTest of(EscapeMill mill) throws IllegalAccessException {
        RoomTest room = new RoomTest();
        room.add(mill);
        return room;
    }

    private void add(Object object) throws IllegalAccessException {
        if (object == null || !objects.add(object)) {
            return;
        }
        if (object.getClass().isArray()) {
            addElements(object);
        } else {
            addFields(object);
        }
    }

    private void addElements(Object array) throws IllegalAccessException {
        int many = Array.getLength(array);
        elements += many;
        if (!array.getClass().getComponentType().isPrimitive()) {
            for (int k = 0; k < many; k++) {
                add(Array.get(array, k));
            }
        }
    }

    private void addFields(Object object) throws IllegalAccessException {
        for (Field field : object.getClass().getDeclaredFields()) {
            if (Modifier.isStatic(field.getModifiers())) {
                continue;
            }
            elements++;
            if (!field.getType().isPrimitive()) {
                field.setAccessible(true);
                add(field.get(object));
            }
        }
    }
}
