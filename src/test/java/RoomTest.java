import java.lang.reflect.Array;
import java.lang.reflect.Field;
import java.lang.reflect.Modifier;
import java.util.ArrayDeque;
import java.util.Collections;
import java.util.Deque;
import java.util.IdentityHashMap;
import java.util.Set;

/** The room that one run has: what an object holds is made with it, and calls add nothing. */
public final class RoomTest {
  private static final Check CHECK = new Check("room");
  /** A hundred objects of this size have room together. */
  private static final int MOST_OBJECTS = 6_000;
  private static final int MOST_ELEMENTS = 73_000;

  private int objects = 0;
  private int elements = 0;

  public static void main(String[] args) throws Exception {
    DropTwo x = new DropTwo();
    RoomTest before = count(x);
    CHECK.isTrue("objects: " + before.objects, before.objects <= MOST_OBJECTS);
    CHECK.isTrue("elements: " + before.elements, before.elements <= MOST_ELEMENTS);
    Check.meet(x, "rounds 2 drop 0;judge land 1;dive fa group 1 degree 20;dive ba group 2 degree 30;"
        + "diver ann land 1;diver bob land 2;list ann fa ba;list bob ba fa;law seen<2;cut 1 most 1;");
    for (int i = 0; i < 30; i++) {
      Check.script(x, "all 7;give;all 8;give;");
      x.wins(i, 5, 0);
      x.ways(0);
      x.best(0, 0);
      x.order(1, 0);
      x.bribes(0, 1, 1);
      x.sheet(-1);
      x.keep(i % 2);
      x.undo();
    }
    RoomTest after = count(x);
    CHECK.due("objects behind calls", before.objects, after.objects);
    CHECK.due("elements behind calls", before.elements, after.elements);
    CHECK.finish();
  }

  /** All that hangs on an object and is of the class's own, or an array. */
  private static RoomTest count(DropTwo x) throws IllegalAccessException {
    RoomTest room = new RoomTest();
    Set<Object> seen = Collections.newSetFromMap(new IdentityHashMap<>());
    Deque<Object> open = new ArrayDeque<>();
    open.add(x);
    while (!open.isEmpty()) {
      Object next = open.remove();
      if (seen.add(next)) {
        room.objects++;
        if (next.getClass().isArray()) {
          room.openArray(next, open);
        } else if (next.getClass().getName().startsWith("DropTwo")) {
          room.openFields(next, open);
        }
      }
    }
    return room;
  }

  private void openArray(Object array, Deque<Object> open) {
    elements += Array.getLength(array);
    if (array instanceof Object[] row) {
      for (Object member : row) {
        if (member != null) {
          open.add(member);
        }
      }
    }
  }

  private void openFields(Object object, Deque<Object> open) throws IllegalAccessException {
    for (Field field : object.getClass().getDeclaredFields()) {
      if (Modifier.isStatic(field.getModifiers())) {
        continue;
      }
      elements++;
      field.setAccessible(true);
      if (!field.getType().isPrimitive() && field.get(object) != null) {
        open.add(field.get(object));
      }
    }
  }
}
