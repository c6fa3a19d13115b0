import java.lang.reflect.Constructor;
import java.lang.reflect.Field;
import java.lang.reflect.Method;
import java.lang.reflect.Modifier;
import java.nio.file.Files;
import java.nio.file.Path;
import java.util.ArrayList;
import java.util.Arrays;
import java.util.List;
import java.util.Set;
import java.util.TreeSet;

/** The public face is the document's and no more; the source keeps to the language's plain rules. */
public final class FaceTest {
  private static final String[] FACE = {
      "int feed(int,int,int,int,int)", "int hall(int)", "int fault(int)", "int person(int,int)",
      "int by(int,int)", "int counted(int,int)", "int hour(int)", "int change(int)",
      "int soup(int)", "int cold(int)", "int undo(int)", "int judge(int,int)", "int perform(int)",
      "int winter(int,int)", "int holds(int)", "int roster(int,int)", "long rosters(int,int)",
      "int most(int,int)", "int needed(int,int)", "int stands()", "int rested(int)",
      "int restBy(int,int)", "int steady()", "int outcome()", "int tells()", "int ends()",
      "long seen(int)", "int seenBy(int,int)", "int surely(int)", "int colds(int,int)",
      "int attempt(int,int)", "int chance(int,int,int)", "int mean(int,int)",
      "int numbers(int,int,int)", "long write(int,int,long)", "int lists(int,int)",
      "int image(int)", "int restore(int)", "int count(int)"};

  private static int wrong = 0;

  public static void main(String[] args) throws Exception {
    face();
    inside();
    source();
    System.out.println(wrong == 0 ? "the face is as told" : wrong + " things are wrong");
    if (wrong > 0) {
      System.exit(1);
    }
  }

  private static void bad(String what) {
    wrong++;
    System.out.println(what);
  }

  private static void face() throws Exception {
    Class<?> c = HandsHeld.class;
    if (c.getModifiers() != (Modifier.PUBLIC | Modifier.FINAL)) {
      bad("the class is not public and final alone");
    }
    Set<String> due = new TreeSet<>(Arrays.asList(FACE));
    Set<String> names = new TreeSet<>();
    Set<String> found = new TreeSet<>();
    for (Method m : c.getDeclaredMethods()) {
      if (Modifier.isPublic(m.getModifiers())) {
        List<String> types = new ArrayList<>();
        for (Class<?> type : m.getParameterTypes()) {
          types.add(type.getSimpleName());
        }
        found.add(m.getReturnType() + " " + m.getName() + "(" + String.join(",", types) + ")");
        names.add(m.getName());
      }
    }
    if (!due.equals(found)) {
      bad("the face is " + found);
    }
    for (Method m : c.getDeclaredMethods()) {
      boolean open = Modifier.isPublic(m.getModifiers());
      if (!open && (!Modifier.isPrivate(m.getModifiers()) || names.contains(m.getName()))) {
        bad("another method: " + m);
      }
    }
    Constructor<?>[] made = c.getDeclaredConstructors();
    if (made.length != 1 || made[0].getModifiers() != Modifier.PUBLIC
        || made[0].getParameterCount() != 0) {
      bad("the constructor");
    }
    for (Field f : c.getDeclaredFields()) {
      boolean none = f.getName().equals("NONE");
      int open = Modifier.PUBLIC | Modifier.STATIC | Modifier.FINAL;
      if (none ? f.getModifiers() != open : !Modifier.isPrivate(f.getModifiers())) {
        bad("a field: " + f);
      }
    }
  }

  private static void inside() {
    Class<?>[] classes = HandsHeld.class.getDeclaredClasses();
    if (classes.length > 12) {
      bad(classes.length + " classes inside");
    }
    for (Class<?> c : classes) {
      if (!Modifier.isStatic(c.getModifiers()) || Modifier.isPublic(c.getModifiers())) {
        bad("a class inside: " + c);
      }
      int fields = 0;
      for (Field f : c.getDeclaredFields()) {
        boolean fixed = Modifier.isStatic(f.getModifiers());
        fields += fixed ? 0 : 1;
        if (fixed && !Modifier.isFinal(f.getModifiers())) {
          bad("a static field that isn't final: " + f);
        }
        if (fixed && f.getType() != int.class && f.getType() != String.class) {
          bad("a constant of another type: " + f);
        }
      }
      if (fields > 20) {
        bad(fields + " fields in " + c);
      }
      for (Method m : c.getDeclaredMethods()) {
        if (m.getParameterCount() > 7) {
          bad("too many parameters: " + m);
        }
      }
    }
  }

  private static void source() throws Exception {
    String text = Files.readString(Path.of("src/main/java/HandsHeld.java"));
    String code = text.replaceAll("(?s)/\\*.*?\\*/", "").replaceAll("//[^\n]*", "");
    String bare = code.replaceAll("\"[^\"]*\"", "\"\"");
    String[] barred = {"throw", "throws", "try", "catch", "finally", "synchronized", "assert",
        "package", "protected", "System.out", "Random", "Thread", "equals", "hashCode", "toString"};
    for (String word : barred) {
      if (bare.matches("(?s).*\\b" + word.replace(".", "\\.") + "\\b.*")) {
        bad("the source has " + word);
      }
    }
    for (String sign : new String[] {"->", "::", "Exact(", "\" +", "+ \"", "catch"}) {
      if (bare.contains(sign)) {
        bad("the source has " + sign);
      }
    }
    for (String line : bare.split("\n")) {
      if (line.startsWith("import ") && !line.equals("import java.util.Arrays;")) {
        bad(line);
      }
    }
    lengths(text.split("\n"));
  }

  /** Methods stay short: from a line with two or four blanks and { to the } below it. */
  private static void lengths(String[] lines) {
    for (int i = 0; i < lines.length; i++) {
      String line = lines[i];
      if (line.matches(" {2}( {2})?[a-z].*\\) \\{")) {
        String end = line.substring(0, line.indexOf(line.trim())) + "}";
        int j = i;
        while (j < lines.length && !lines[j].equals(end)) {
          j++;
        }
        if (j - i > 60) {
          bad("a long method: " + line.trim());
        }
      }
    }
  }
}
