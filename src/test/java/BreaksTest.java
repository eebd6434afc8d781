import java.io.ByteArrayOutputStream;
import java.io.IOException;
import java.io.InputStream;
import java.io.OutputStream;
import java.io.PrintStream;
import java.io.StringWriter;
import java.lang.reflect.InvocationTargetException;
import java.net.URI;
import java.nio.file.Files;
import java.nio.file.Path;
import java.util.HashMap;
import java.util.List;
import java.util.Map;
import javax.tools.FileObject;
import javax.tools.ForwardingJavaFileManager;
import javax.tools.JavaCompiler;
import javax.tools.JavaFileManager;
import javax.tools.JavaFileObject;
import javax.tools.SimpleJavaFileObject;
import javax.tools.ToolProvider;

/** Breaks each sentence that EdgesTest tests, in a copy of the program: the sentence's own test must fail then. */
public final class BreaksTest {
  private static final Path PROGRAM = Path.of("src/main/java/SharedShadow.java");
  private static final JavaCompiler COMPILER = ToolProvider.getSystemJavaCompiler();
  private static final Checks checks = new Checks();

  private BreaksTest() {
  }

  public static void main(String[] args) throws Exception {
    String source = Files.readString(PROGRAM);
    List<Edges> groups = EdgesTest.groups();
    for (int g = 0; g < groups.size(); g++) {
      List<Edge> edges = groups.get(g).edges();
      for (int e = 0; e < edges.size(); e++) {
        breakOne(source, edges.get(e), g, e);
      }
    }
    checks.end("BreaksTest");
  }

  private static void breakOne(String source, Edge edge, int group, int number) throws Exception {
    String broken = edge.broken().applyTo(source);
    Map<String, ByteArrayOutputStream> classes = broken == null ? Map.of() : compile(broken);
    checks.holds("the program can be broken as told for " + edge.name(), !classes.isEmpty());
    if (!classes.isEmpty()) {
      checks.holds("the broken program fails the test of " + edge.name(), fails(classes, group, number));
    }
  }

  /** Whether the edge's test fails, or throws, on a broken program. */
  private static boolean fails(Map<String, ByteArrayOutputStream> classes, int group, int edge) throws Exception {
    Class<?> tests = new Loader(classes).loadClass("EdgesTest");
    PrintStream out = System.out;
    System.setOut(new PrintStream(OutputStream.nullOutputStream()));
    try {
      return !(boolean) tests.getMethod("holds", int.class, int.class).invoke(null, group, edge);
    } catch (InvocationTargetException thrown) {
      return true;
    } finally {
      System.setOut(out);
    }
  }

  /** The classes of a source, none if it doesn't compile. */
  private static Map<String, ByteArrayOutputStream> compile(String source) {
    JavaFileObject file = new SimpleJavaFileObject(uri("SharedShadow.java"), JavaFileObject.Kind.SOURCE) {
      @Override
      public CharSequence getCharContent(boolean ignoreErrors) {
        return source;
      }
    };
    InMemory files = new InMemory(COMPILER.getStandardFileManager(null, null, null));
    List<String> options = List.of("-proc:none");
    boolean isCompiled = COMPILER.getTask(new StringWriter(), files, null, options, null, List.of(file)).call();
    return isCompiled ? files.classes : Map.of();
  }

  private static URI uri(String name) {
    return URI.create("string:///" + name);
  }

  /** Keeps the classes that are compiled, instead of writing files. */
  private static final class InMemory extends ForwardingJavaFileManager<JavaFileManager> {
    final Map<String, ByteArrayOutputStream> classes = new HashMap<>();

    InMemory(JavaFileManager files) {
      super(files);
    }

    @Override
    public JavaFileObject getJavaFileForOutput(Location place, String name, JavaFileObject.Kind kind, FileObject from) {
      return new SimpleJavaFileObject(uri(name + ".class"), kind) {
        @Override
        public OutputStream openOutputStream() {
          ByteArrayOutputStream bytes = new ByteArrayOutputStream();
          classes.put(name, bytes);
          return bytes;
        }
      };
    }
  }

  /** Loads the broken program's classes, and the tests anew, so that they use these. */
  private static final class Loader extends ClassLoader {
    private final Map<String, ByteArrayOutputStream> classes;

    Loader(Map<String, ByteArrayOutputStream> classes) {
      super(ClassLoader.getPlatformClassLoader());
      this.classes = classes;
    }

    @Override
    protected Class<?> findClass(String name) throws ClassNotFoundException {
      byte[] bytes = classes.containsKey(name) ? classes.get(name).toByteArray() : bytesOfTest(name);
      return defineClass(name, bytes, 0, bytes.length);
    }

    private static byte[] bytesOfTest(String name) throws ClassNotFoundException {
      try (InputStream in = BreaksTest.class.getResourceAsStream("/" + name + ".class")) {
        if (in == null) {
          throw new ClassNotFoundException(name);
        }
        return in.readAllBytes();
      } catch (IOException e) {
        throw new ClassNotFoundException(name, e);
      }
    }
  }
}
