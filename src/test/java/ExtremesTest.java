import java.lang.reflect.Method;
import java.lang.reflect.Modifier;

/** All promises: no call ever throws, whatever its arguments, in any state. */
public final class ExtremesTest {
  private static final Check CHECK = new Check("extremes");
  private static final int[] NUMBERS = {
    Integer.MIN_VALUE, -1000, -3, -2, -1, 0, 1, 2, 3, 5, 6, 7, 10, 11, 12, 20, 21, 31, 32, 40, 1199, 1200,
    1 << 30, Integer.MAX_VALUE
  };
  /** As much of everything as a meet can have. */
  private static final String MEET =
      "rounds 6 drop 3;judge land 0;judge land 7;judge land 1;judge land 2;judge land 3;"
          + "judge land 1 first;judge land 1 second;judge land 2 together;judge land 1 first;"
          + "judge land 1 second;judge land 2 together;dive a group 1 degree 10;"
          + "dive b group 2 degree 60;dive c group 3 degree 20;dive d group 4 degree 30;"
          + "dive e group 5 degree 40;dive f group 6 degree 50;dive g group 1 degree 15;"
          + "dive h group 2 degree 25;dive i group 3 degree 35;dive j group 4 degree 45;"
          + "diver u land 0;pair v land 7;diver w land 1;diver x land 0;pair y land 7;pair z land 1;"
          + "list u a b c d e f;list v g f e d c b;list w a b c d e f;list x j i h g f e;"
          + "list y a b c d e f;list z j i h g f e;law sum/(round-2)<9999;law seen<4;law unlike>0;"
          + "law round<7;law group<7;law degree>9;cut 2 most 5;cut 4 most 3 anew;cut 5 most 2;";

  public static void main(String[] args) throws Exception {
    String[] starts = {
      null, "", "all 3;give;", "all 3;give;all 4;give;all 3;give;fail;", "out z;",
      "out u;out v;out w;out x;out y;out z;"
    };
    for (String start : starts) {
      for (Method method : DropTwo.class.getDeclaredMethods()) {
        if (Modifier.isPublic(method.getModifiers())) {
          tryAll(start, method);
        }
      }
    }
    CHECK.finish();
  }

  private static DropTwo make(String start) {
    DropTwo x = new DropTwo();
    if (start != null) {
      CHECK.isTrue("meet", Check.meet(x, MEET) > 0);
      CHECK.isTrue("script", Check.script(x, start) >= 0);
    }
    return x;
  }

  private static void tryAll(String start, Method method) {
    int count = method.getParameterCount();
    DropTwo x = make(start);
    int calls = 0;
    int all = count == 0 ? 1 : (int) Math.pow(NUMBERS.length, Math.min(count, 3));
    for (int i = 0; i < all; i++) {
      Object[] values = new Object[count];
      int rest = i;
      for (int k = 0; k < count; k++) {
        values[k] = NUMBERS[rest % NUMBERS.length];
        rest /= NUMBERS.length;
      }
      calls++;
      if (calls == 400) {
        calls = 0;
        x = make(start);
      }
      try {
        method.invoke(x, values);
      } catch (ReflectiveOperationException e) {
        CHECK.isTrue(method.getName() + java.util.Arrays.toString(values) + " threw " + e.getCause(), false);
      }
    }
    CHECK.isTrue(method.getName(), true);
  }
}
