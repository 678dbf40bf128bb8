import java.lang.reflect.Method;
import java.lang.reflect.Modifier;
import java.util.Arrays;
import java.util.Comparator;
import java.util.Random;

/** Any arguments in any state: no call may throw. */
public final class WildCallsTest extends Checks {
  private static final int[] NUMBERS = {Integer.MIN_VALUE, -400, -3, -2, -1, 0, 0, 0, 1, 1, 1, 2, 2, 3, 4, 5, 6, 7, 8, 9, 10,
      31, 32, 60, 61, 400, 999, 65536, Integer.MAX_VALUE - 1, Integer.MAX_VALUE};
  private static final String[] TEXTS = {
      "town 8 1;bridge 0 1;bridge 1 2;bridge 2 3;bridge 3 0;bridge 4 5;bridge 5 6;bridge 6 4;bridge 0 4;bridge 1 0;ferry 0 7;"
          + "frost 0 2;person 0;person 4;person 7;person 0;crossed 1 4 1;want 0 2 1 9;want 0 1 3 5;want 1 6 0 8;want 3 0 2 50",
      "town 2 5;bridge 0 1;bridge 0 1;bridge 0 1;bridge 0 1;bridge 0 1;bridge 0 1;bridge 0 1;bridge 0 1;bridge 0 1;person 0;"
          + "person 1;want 0 1 0 1;want 0 0 1 2;want 0 1 2 3;want 1 0 99 4",
      "town 2 1", "town 3 1;person 2", "town 2 1;bridge 0 1",
      "cross nearer * 5 + left - people if [ not until < 3 or pay > 1 ] and day / left % to >= 0;cross 1", "cross bridge % 2 + 1"};

  public static void main(String[] args) throws Exception {
    Method[] face = Arrays.stream(ThriceBridge.class.getDeclaredMethods())
        .filter(m -> Modifier.isPublic(m.getModifiers()))
        .sorted(Comparator.comparing(Method::getName)).toArray(Method[]::new);
    Random random = new Random(3);
    for (int run = 0; run < 400; run++) {
      ThriceBridge t = new ThriceBridge();
      for (int call = 0; call < 450; call++) {
        if (random.nextInt(40) == 0 || call == 0 && run % 4 != 0) tell(t, TEXTS[random.nextInt(TEXTS.length)]);
        Method m = face[random.nextInt(face.length)];
        Object[] numbers = new Object[m.getParameterCount()];
        for (int i = 0; i < numbers.length; i++) numbers[i] = NUMBERS[random.nextInt(NUMBERS.length)];
        m.invoke(t, numbers); // what it throws ends this test
      }
    }
    System.out.println("no wild call throws");
  }

  private static void tell(ThriceBridge t, String text) {
    if (text.startsWith("town")) town(t, text);
    else rule(t, text);
  }
}
