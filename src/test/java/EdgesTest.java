import java.nio.file.Files;
import java.nio.file.Path;
import java.util.List;
import java.util.Set;
import java.util.TreeSet;

/** Each sentence of the document that names a boundary case, by a test of its own. BreaksTest breaks each of them. */
public final class EdgesTest {
  private static final Path DOCUMENT = Path.of("../shared/DOC.md");
  private static final int PROMISES = 48;

  private EdgesTest() {
  }

  static List<Edges> groups() {
    return List.of(new EdgesOfTerms(), new EdgesOfPeople(), new EdgesOfHours(), new EdgesOfPairs(),
        new EdgesOfDraws(), new EdgesOfTexts(), new EdgesOfSheets(), new EdgesOfImages(),
        new EdgesOfRefusals());
  }

  /** Whether this edge's test holds. BreaksTest calls it with a broken program. */
  public static boolean holds(int group, int edge) {
    Edges edges = groups().get(group);
    return edges.holds(edges.edges().get(edge));
  }

  public static void main(String[] args) throws Exception {
    String document = Files.readString(DOCUMENT);
    Checks checks = new Checks();
    Set<Integer> promises = new TreeSet<>();
    for (Edges group : groups()) {
      for (Edge edge : group.edges()) {
        checks.holds(edge.name(), group.holds(edge));
        checks.holds("the document says " + edge.name(), section(document, edge.promise()).contains(edge.sentence()));
        promises.add(edge.promise());
      }
    }
    for (int promise = 0; promise <= PROMISES; promise++) {
      checks.holds("there is an edge of promise " + promise, promises.contains(promise));
    }
    checks.end("EdgesTest");
  }

  /** What a promise's section says; of 0: the Terms and what stands ahead of them. */
  private static String section(String document, int promise) {
    String head = "\n## Promise " + promise + ":";
    int begin = promise == 0 ? 0 : Math.max(0, document.indexOf(head));
    int end = document.indexOf(promise == 0 ? "\n## Promise 1:" : "\n## ", begin + 1);
    return end < 0 ? document.substring(begin) : document.substring(begin, end);
  }
}
