import java.lang.reflect.InvocationTargetException;
import java.lang.reflect.Method;
import java.lang.reflect.Modifier;
import java.util.ArrayList;
import java.util.Arrays;
import java.util.Comparator;
import java.util.List;

/**
 * What the tests of the boundary cases share. Each is a static method of its own whose name begins
 * with the promise's number (promise07_...): a new object, the calls, the answers that are due.
 */
abstract class Bounds {
  static final int NONE = HandsHeld.NONE;
  static final int LEAST = Integer.MIN_VALUE;
  static final int GREATEST = Integer.MAX_VALUE;

  private static String running = "";
  private static boolean good = true;

  interface Call {
    long on(HandsHeld x);
  }

  interface Maker {
    HandsHeld make();
  }

  /** Runs the tests of a class one by one: the names of those that fail. */
  static List<String> failing(Class<?> tests) throws Exception {
    List<String> failed = new ArrayList<>();
    for (String name : namesOf(tests)) {
      running = name;
      good = true;
      Method test = tests.getDeclaredMethod(name);
      test.setAccessible(true);
      try {
        test.invoke(null);
      } catch (InvocationTargetException e) {
        good = false;
        System.out.println(name + " threw " + e.getCause());
      }
      if (!good) {
        failed.add(name);
      }
    }
    return failed;
  }

  static List<String> namesOf(Class<?> tests) {
    List<String> names = new ArrayList<>();
    for (Method m : tests.getDeclaredMethods()) {
      if (Modifier.isStatic(m.getModifiers()) && m.getName().matches("promise\\d\\d_\\w+")) {
        names.add(m.getName());
      }
    }
    names.sort(Comparator.naturalOrder());
    return names;
  }

  static void due(String call, long got, long want) {
    due(call, Long.toString(got), Long.toString(want));
  }

  static void due(String call, String got, String want) {
    if (!got.equals(want)) {
      good = false;
      System.out.println(running + ": " + call + " answered " + got + ", due is " + want);
    }
  }

  /** Feeds a text, blanks behind it up to a multiple of twenty: the last answer. */
  static int feed(HandsHeld x, String text) {
    int last = 0;
    for (int at = 0; at < text.length(); at += 20) {
      int[] five = new int[5];
      for (int i = 0; i < 20; i++) {
        int c = at + i < text.length() ? text.charAt(at + i) : ' ';
        five[i / 4] = five[i / 4] << 8 | c;
      }
      last = x.feed(five[0], five[1], five[2], five[3], five[4]);
    }
    return last;
  }

  static int tell(HandsHeld x, String text) {
    feed(x, text);
    return x.hall(text.length());
  }

  /** A new object with a hall that has no fault. */
  static HandsHeld of(String text) {
    HandsHeld x = new HandsHeld();
    int lines = tell(x, text);
    if (lines < 1) {
      due("hall of " + text, lines, 1);
    }
    return x;
  }

  static void reads(String text, int lines) {
    HandsHeld x = new HandsHeld();
    due("hall of " + text, tell(x, text), lines);
    due("fault(0) of " + text, x.fault(0), 0);
    due("fault(1) of " + text, x.fault(1), NONE);
  }

  static void fault(String text, int kind, int place) {
    HandsHeld x = new HandsHeld();
    due("hall of " + text, tell(x, text), -30 - kind);
    due("fault(0) of " + text, x.fault(0), kind);
    due("fault(1) of " + text, x.fault(1), place);
  }

  /** A tray gets numbers that its sort can hold. */
  static HandsHeld tray(HandsHeld x, int tray, int sort, long... numbers) {
    due("numbers(" + tray + ", " + sort + ", " + numbers.length + ")",
        x.numbers(tray, sort, numbers.length), 0);
    for (int i = 0; i < numbers.length; i++) {
      due("write(" + tray + ", " + i + ", " + numbers[i] + ")", x.write(tray, i, numbers[i]),
          numbers[i]);
    }
    return x;
  }

  static long[] times(int n, long number) {
    long[] numbers = new long[n];
    Arrays.fill(numbers, number);
    return numbers;
  }

  /** So many people of a side, each told in the same way. */
  static String people(int n, String line) {
    return (line + ";").repeat(n);
  }

  static int strengths(HandsHeld x) {
    int told = 0;
    for (int p = 0; p < x.count(0); p++) {
      told = told * 10 + x.person(p, 1);
    }
    return told;
  }

  /** An object that had another hall, as full as can be, and was asked what can come of it. */
  static HandsHeld used() {
    HandsHeld x = of("hall must 2;" + people(5, "person side 1 strength 2 weight 9 rod") + "cold 7;"
        + "tires: strength + 1 - held * 2; counts: weight > 8;");
    x.holds(1);
    x.stands();
    x.outcome();
    tray(x, 3, 0, 2, NONE);
    x.seen(3);
    tray(x, 3, 0, 31, 31);
    x.mean(3, 0);
    return x;
  }

  /** A call answers on an object that had another hall as on one that had none. */
  static void asOnANewObject(String text, String call, Call told) {
    HandsHeld x = used();
    tell(x, text);
    HandsHeld fresh = tray(of(text), 3, 0, 31, 31);
    due(call + " of " + text, told.on(x), told.on(fresh));
  }

  static final String LIVED = "hall must 1; person side 0 strength 3; person side 0 strength 1;"
      + "person side 1 strength 2 weight 5; cold 4;";

  /**
   * Something of everything: three people of strengths 2, 0 and 3, the last on side 1; deeds that
   * can be undone, an image, trays of several sorts, one of them missing, a fault, bytes on the
   * tape.
   */
  static HandsHeld lived() {
    HandsHeld x = of(LIVED);
    x.hour(3);
    x.image(0);
    x.change(2);
    x.change(2);
    x.cold(6);
    tray(x, 0, 0, 1, 61, 2);
    tray(x, 1, 1, 1, NONE, 2);
    x.numbers(3, 3, 40);
    tell(x, "hall must 9;");
    feed(x, "hall must 2; person side 1;");
    return x;
  }

  /** A call is refused by a code, and all is behind it as without it. */
  static void refuses(Maker maker, String call, Call told, long code) {
    HandsHeld x = maker.make();
    HandsHeld twin = maker.make();
    due(call, told.on(x), code);
    due("all behind " + call, all(x), all(twin));
  }

  static void refuses(String call, Call told, long code) {
    refuses(Bounds::lived, call, told, code);
  }

  /** All that can be asked, then tried, of an object; it is spent behind. */
  private static String all(HandsHeld x) {
    StringBuilder found = new StringBuilder();
    counts(x, found);
    found.append("fault ").append(x.fault(0)).append(' ').append(x.fault(1)).append('\n');
    for (int p = 0; p < x.count(0); p++) {
      for (int what = 0; what < 5; what++) {
        found.append(x.person(p, what)).append(' ');
      }
    }
    found.append(x.holds(0)).append(' ').append(x.holds(1)).append(' ').append(x.outcome());
    for (int t = 0; t < 4; t++) {
      found.append("\ntray ").append(t);
      for (int what = 0; what < 4; what++) {
        found.append(' ').append(x.judge(t, what));
      }
      found.append(' ').append(x.seen(t)).append(' ').append(x.surely(t));
      found.append(' ').append(x.colds(t, 0)).append(' ').append(x.chance(t, 0, 0));
      for (int i : new int[] {0, 1, 2, 3, 39, 40}) {
        found.append(' ').append(x.write(t, i, 0x123456789abcdef0L));
      }
    }
    for (int i = 0; i < 12 && x.count(7) > 0; i++) {
      found.append("\nundone ").append(x.undo(1)).append(' ');
      counts(x, found);
    }
    found.append("\nhall ").append(x.hall(x.count(8))).append(' ').append(x.fault(1)).append(' ');
    counts(x, found);
    for (int i = 0; i < 2; i++) {
      found.append("\nimage ").append(x.restore(i)).append(' ');
      counts(x, found);
    }
    return found.toString();
  }

  private static void counts(HandsHeld x, StringBuilder found) {
    for (int what = 0; what < 10; what++) {
      found.append(x.count(what)).append(' ');
    }
  }
}
