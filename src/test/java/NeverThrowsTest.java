import java.lang.reflect.InvocationTargetException;
import java.lang.reflect.Method;
import java.util.ArrayList;
import java.util.Arrays;
import java.util.Comparator;
import java.util.List;
import java.util.Random;

/** Any call with any numbers, in any state, answers: nothing is thrown, and refusals change nothing. */
public final class NeverThrowsTest {
  private static final int[] EDGES = {Integer.MIN_VALUE, Integer.MIN_VALUE + 1, -65536, -1000, -33,
      -32, -12, -2, -1, 0, 0, 0, 1, 1, 2, 3, 4, 5, 6, 7, 8, 9, 10, 11, 20, 21, 31, 32, 39, 40, 41,
      63, 64, 99, 100, 127, 128, 255, 256, 899, 900, 901, 65535, 65536, 1 << 30,
      Integer.MAX_VALUE - 1, Integer.MAX_VALUE};

  public static void main(String[] args) throws Exception {
    List<Method> methods = new ArrayList<>();
    for (Method m : HandsHeld.class.getDeclaredMethods()) {
      if (java.lang.reflect.Modifier.isPublic(m.getModifiers())) {
        methods.add(m);
      }
    }
    methods.sort(Comparator.comparing(Method::getName));
    Random random = new Random(12);
    int wrong = 0;
    for (int run = 0; run < 600 && wrong == 0; run++) {
      HandsHeld x = new HandsHeld();
      List<String> log = new ArrayList<>();
      for (int call = 0; call < 512 && wrong == 0; call++) {
        if (call % 64 == 3 && random.nextInt(4) > 0) {
          String text = text(random);
          log.add("hall of " + text);
          x.hall(0);
          Bounds.feed(x, text);
          x.hall(text.length());
          continue;
        }
        Method m = methods.get(random.nextInt(methods.size()));
        Object[] told = new Object[m.getParameterCount()];
        for (int i = 0; i < told.length; i++) {
          int v = random.nextInt(3) == 0 ? EDGES[random.nextInt(EDGES.length)] : random.nextInt(8);
          long wide = random.nextInt(6) == 0 ? random.nextLong() : v;
          told[i] = m.getParameterTypes()[i] == long.class ? (Object) wide : (Object) v;
        }
        log.add(m.getName() + Arrays.toString(told));
        try {
          int[] before = all(x);
          long answer = ((Number) m.invoke(x, told)).longValue();
          if (answer < -1 && !m.getName().equals("write") && !m.getName().equals("hall")
              && !Arrays.equals(before, all(x))) {
            wrong++;
            System.out.println(log + " was refused and changed something");
          }
        } catch (InvocationTargetException e) {
          wrong++;
          System.out.println(log + " threw " + e.getCause());
        }
      }
    }
    if (wrong > 0) {
      System.exit(1);
    }
    System.out.println("nothing was thrown");
  }

  private static int[] all(HandsHeld x) {
    int[] found = new int[42];
    for (int i = 0; i < 10; i++) {
      found[i] = x.count(i);
    }
    for (int p = 0; p < 5; p++) {
      for (int what = 0; what < 5; what++) {
        found[10 + 5 * p + what] = x.person(p, what);
      }
    }
    for (int tray = 0; tray < 4; tray++) {
      found[35 + tray] = 100 * x.judge(tray, 0) + x.judge(tray, 2);
    }
    found[39] = x.fault(0);
    found[40] = x.fault(1);
    return found;
  }

  private static String text(Random random) {
    String[] lines = {"person side 0;", "person side 1 strength 2;", "person side 0 rod;", "cold 4;",
        "person side 1 weight 3 strength 1;", "tires: strength - held + mates;",
        "counts: strength > cold - 3;", "tires: if held = 1 then strength - 1 else 4 end;"};
    StringBuilder text = new StringBuilder("hall must " + random.nextInt(4) + ";");
    int n = random.nextInt(9);
    for (int i = 0; i < n; i++) {
      text.append(lines[random.nextInt(lines.length)]);
    }
    if (random.nextInt(5) == 0) {
      for (int i = 0; i < 5; i++) {
        text.insert(random.nextInt(text.length()), (char) random.nextInt(256));
      }
    }
    return text.toString();
  }
}
