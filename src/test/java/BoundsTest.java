import java.util.ArrayList;
import java.util.List;

/** Runs every test of the boundary cases, and sees to it that each promise has some. */
public final class BoundsTest {
  static final Class<?>[] TESTS = {HallBounds.class, TextBounds.class, DeedBounds.class,
      RosterBounds.class, CanBeBounds.class, SeenBounds.class, ChanceBounds.class,
      TrayBounds.class};
  private static final int PROMISES = 40;

  public static void main(String[] args) throws Exception {
    List<String> failed = new ArrayList<>();
    int[] found = new int[PROMISES + 1];
    int all = 0;
    for (Class<?> tests : TESTS) {
      for (String name : Bounds.namesOf(tests)) {
        found[Integer.parseInt(name.substring(7, 9))]++;
        all++;
      }
      failed.addAll(Bounds.failing(tests));
    }
    for (int promise = 1; promise <= PROMISES; promise++) {
      if (found[promise] == 0) {
        failed.add("promise " + promise + " has no test");
      }
    }
    for (String name : failed) {
      System.out.println("failed: " + name);
    }
    System.out.println(all + " boundary cases, " + failed.size() + " failed");
    if (!failed.isEmpty()) {
      System.exit(1);
    }
  }
}
