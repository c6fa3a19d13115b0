import java.io.IOException;
import java.nio.file.Files;
import java.nio.file.Path;
import java.util.ArrayList;
import java.util.HashSet;
import java.util.List;
import java.util.Set;

/**
 * Sees to it that src/test/sentences.txt tells every sentence of the document in its order, each
 * with boundary cases that would fail if it were broken, or with the reason why none can.
 */
public final class SentencesTest {
  private static final Path DOCUMENT = Path.of("../shared/DOC.md");
  private static final Path LIST = Path.of("src/test/sentences.txt");
  private static final String FIRST = "## What it is";
  private static int wrong = 0;

  public static void main(String[] args) throws IOException {
    List<String> told = new ArrayList<>();
    readList(told, namesOfTests());
    if (Files.exists(DOCUMENT)) {
      compare(told, sentences(Files.readAllLines(DOCUMENT)));
    }
    System.out.println(told.size() + " sentences, " + wrong + " wrong");
    if (wrong > 0 || told.isEmpty()) {
      System.exit(1);
    }
  }

  private static void tell(String trouble) {
    wrong++;
    System.out.println(trouble);
  }

  private static Set<String> namesOfTests() {
    Set<String> names = new HashSet<>();
    for (Class<?> tests : BoundsTest.TESTS) {
      names.addAll(Bounds.namesOf(tests));
    }
    return names;
  }

  /** A sentence stands behind >, on as many lines as it needs, then what shows it. */
  private static void readList(List<String> told, Set<String> names) throws IOException {
    String sentence = "";
    int shown = 0;
    List<String> lines = new ArrayList<>(Files.readAllLines(LIST));
    lines.add("");
    for (String line : lines) {
      if (line.startsWith("> ")) {
        sentence = (sentence + " " + line.substring(2)).strip();
      } else if (!line.isBlank()) {
        shown++;
        if (!line.startsWith("- ") && !names.contains(line)) {
          tell("there is no test " + line);
        }
      } else if (!sentence.isEmpty()) {
        if (shown == 0) {
          tell("nothing shows: " + sentence);
        }
        told.add(sentence);
        sentence = "";
        shown = 0;
      }
    }
  }

  /** The document without its headings and the face, cut behind each . and ; */
  private static List<String> sentences(List<String> lines) {
    StringBuilder text = new StringBuilder();
    boolean face = false;
    int first = Math.max(0, lines.indexOf(FIRST));
    for (String line : lines.subList(first, lines.size())) {
      boolean fence = line.startsWith("```");
      face = fence ? line.equals("```java") : face;
      if (!fence && !face && !line.startsWith("## ")) {
        text.append(line).append(' ');
      }
    }
    return List.of(text.toString().strip().replaceAll("\\s+", " ").split("(?<=[.;]) "));
  }

  private static void compare(List<String> told, List<String> written) {
    for (int i = 0; i < Math.max(told.size(), written.size()); i++) {
      String one = i < told.size() ? told.get(i) : "nothing";
      String other = i < written.size() ? written.get(i) : "nothing";
      if (!one.equals(other)) {
        tell("the document says: " + other + "\nthe list has: " + one);
        return;
      }
    }
  }
}
