import java.io.OutputStream;
import java.io.PrintStream;
import java.lang.reflect.InvocationTargetException;
import java.nio.file.Files;
import java.nio.file.Path;
import java.util.List;

/** Breaks each sentence that EdgesTest tests, in a copy of the program: the sentence's own test must fail then. */
public final class BreaksTest {
  private static final Path PROGRAM = Path.of("src/main/java/SharedShadow.java");
  private static final Checks checks = new Checks();

  private BreaksTest() {
  }

  public static void main(String[] args) throws Exception {
    String source = Files.readString(PROGRAM);
    List<Edges> groups = EdgesTest.groups();
    for (int g = 0; g < groups.size(); g++) {
      List<Edge> edges = groups.get(g).edges();
      for (int e = 0; e < edges.size(); e++) {
        breakOne(source, edges.get(e), g, e);
      }
    }
    checks.end("BreaksTest");
  }

  private static void breakOne(String source, Edge edge, int group, int number) throws Exception {
    String broken = edge.broken().applyTo(source);
    Compiled program = broken == null ? null : Compiled.from("SharedShadow", broken);
    checks.holds("the program can be broken as told for " + edge.name(), program != null);
    if (program != null) {
      checks.holds("the broken program fails the test of " + edge.name(), fails(program, group, number));
    }
  }

  /** Whether the edge's test fails, or throws, on a broken program. */
  private static boolean fails(Compiled program, int group, int edge) throws Exception {
    Class<?> tests = program.loadClass("EdgesTest");
    PrintStream out = System.out;
    System.setOut(new PrintStream(OutputStream.nullOutputStream()));
    try {
      return !(boolean) tests.getMethod("holds", int.class, int.class).invoke(null, group, edge);
    } catch (InvocationTargetException thrown) {
      return true;
    } finally {
      System.setOut(out);
    }
  }
}
