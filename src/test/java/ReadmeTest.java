import java.lang.reflect.Method;
import java.lang.reflect.Modifier;
import java.net.URL;
import java.net.URLClassLoader;
import java.nio.file.Files;
import java.nio.file.Path;
import java.util.Comparator;
import java.util.List;
import java.util.regex.Matcher;
import java.util.regex.Pattern;
import java.util.stream.Stream;

/**
 * What README.md shows: its calls are compiled and run in their order on one object, and each that
 * has a number behind it must answer so. Every method of the face is shown, every file that is
 * named is there.
 */
public final class ReadmeTest {
  private static final Pattern BLOCK = Pattern.compile("```java\n(.*?)```", Pattern.DOTALL);
  private static final Pattern SHOWN =
      Pattern.compile("((?:hands\\.|tell\\()[^;]*(?:\"[^\"]*\"[^;\"]*)*);\\s*// (-?\\d+)");
  private static int wrong = 0;

  public static void main(String[] args) throws Exception {
    String page = Files.readString(Path.of("README.md"));
    runShown(page);
    seeMethods(page);
    seeFiles(page);
    if (wrong > 0) {
      System.exit(1);
    }
    System.out.println("all is as README.md shows it");
  }

  private static void tell(String trouble) {
    wrong++;
    System.out.println(trouble);
  }

  /** The blocks as one class: methods as they are, statements in their order. */
  private static String asClass(String page) {
    StringBuilder methods = new StringBuilder();
    StringBuilder calls = new StringBuilder();
    Matcher block = BLOCK.matcher(page);
    while (block.find()) {
      boolean method = block.group(1).startsWith("static ");
      (method ? methods : calls).append(checked(block.group(1)));
    }
    return "public class Shown {\n  static int wrong = 0;\n  static int seen = 0;\n"
        + "  static void due(String call, long got, long want) {\n    seen++;\n"
        + "    if (got != want) {\n      wrong++;\n"
        + "      System.out.println(call + \" answered \" + got + \", README.md says \" + want);\n"
        + "    }\n  }\n" + methods + "  public static int run() {\n" + calls
        + "    System.out.println(seen + \" answers shown\");\n"
        + "    return seen == 0 ? 1 : wrong;\n  }\n}\n";
  }

  /** Each call that has a number behind it is seen to answer it. */
  private static String checked(String block) {
    return SHOWN.matcher(block).replaceAll(shown -> {
      String call = shown.group(1);
      String quoted = call.replace("\\", "\\\\").replace("\"", "\\\"").replaceAll("\\s+", " ");
      return Matcher.quoteReplacement(
          "due(\"" + quoted + "\", " + call + ", " + shown.group(2) + "L); //");
    });
  }

  private static void runShown(String page) throws Exception {
    Path out = Files.createTempDirectory("readme");
    try {
      Path source = Files.writeString(out.resolve("Shown.java"), asClass(page));
      Process compiling = new ProcessBuilder("javac", "-nowarn", "-cp",
          System.getProperty("java.class.path"), "-d", out.toString(), source.toString())
          .inheritIO().start();
      if (compiling.waitFor() != 0) {
        tell("what README.md shows doesn't compile");
        return;
      }
      try (URLClassLoader loader = new URLClassLoader(new URL[] {out.toUri().toURL()})) {
        Object found = loader.loadClass("Shown").getMethod("run").invoke(null);
        wrong += (Integer) found;
      }
    } finally {
      try (Stream<Path> files = Files.walk(out)) {
        List<Path> all = files.sorted(Comparator.reverseOrder()).toList();
        for (Path file : all) {
          Files.delete(file);
        }
      }
    }
  }

  private static void seeMethods(String page) {
    for (Method m : HandsHeld.class.getDeclaredMethods()) {
      if (Modifier.isPublic(m.getModifiers()) && !page.contains("hands." + m.getName() + "(")) {
        tell("README.md doesn't show " + m.getName());
      }
    }
  }

  private static void seeFiles(String page) {
    Matcher named = Pattern.compile("`(\\w+Test)\\b").matcher(page);
    while (named.find()) {
      if (!Files.exists(Path.of("src/test/java/" + named.group(1) + ".java"))) {
        tell("README.md names " + named.group(1) + ", which isn't there");
      }
    }
    Matcher paths = Pattern.compile("(?:\\.\\./shared|src|\\.ci)/[\\w./]*\\w").matcher(page);
    while (paths.find()) {
      if (!Files.exists(Path.of(paths.group()))) {
        tell("README.md names " + paths.group() + ", which isn't there");
      }
    }
  }
}
