import java.io.ByteArrayOutputStream;
import java.io.IOException;
import java.io.InputStream;
import java.io.OutputStream;
import java.io.StringWriter;
import java.net.URI;
import java.util.HashMap;
import java.util.List;
import java.util.Map;
import javax.tools.FileObject;
import javax.tools.ForwardingJavaFileManager;
import javax.tools.JavaCompiler;
import javax.tools.JavaFileManager;
import javax.tools.JavaFileObject;
import javax.tools.SimpleJavaFileObject;
import javax.tools.ToolProvider;

/** Classes compiled from a source that stands in no file, and the tests' own classes loaded anew, so that they use these. */
final class Compiled extends ClassLoader {
  private static final JavaCompiler COMPILER = ToolProvider.getSystemJavaCompiler();

  private final Map<String, ByteArrayOutputStream> classes;

  private Compiled(Map<String, ByteArrayOutputStream> classes) {
    super(ClassLoader.getPlatformClassLoader());
    this.classes = classes;
  }

  /** Null if the source doesn't compile. */
  static Compiled from(String className, String source) {
    JavaFileObject file = new SimpleJavaFileObject(uri(className + ".java"), JavaFileObject.Kind.SOURCE) {
      @Override
      public CharSequence getCharContent(boolean ignoreErrors) {
        return source;
      }
    };
    InMemory files = new InMemory(COMPILER.getStandardFileManager(null, null, null));
    List<String> options = List.of("-proc:none", "-classpath", System.getProperty("java.class.path"));
    boolean isCompiled = COMPILER.getTask(new StringWriter(), files, null, options, null, List.of(file)).call();
    return isCompiled ? new Compiled(files.classes) : null;
  }

  @Override
  protected Class<?> findClass(String name) throws ClassNotFoundException {
    byte[] bytes = classes.containsKey(name) ? classes.get(name).toByteArray() : bytesOfTest(name);
    return defineClass(name, bytes, 0, bytes.length);
  }

  private static byte[] bytesOfTest(String name) throws ClassNotFoundException {
    try (InputStream in = Compiled.class.getResourceAsStream("/" + name + ".class")) {
      if (in == null) {
        throw new ClassNotFoundException(name);
      }
      return in.readAllBytes();
    } catch (IOException e) {
      throw new ClassNotFoundException(name, e);
    }
  }

  private static URI uri(String name) {
    return URI.create("string:///" + name);
  }

  /** Keeps the classes that are compiled, instead of writing files. */
  private static final class InMemory extends ForwardingJavaFileManager<JavaFileManager> {
    final Map<String, ByteArrayOutputStream> classes = new HashMap<>();

    InMemory(JavaFileManager files) {
      super(files);
    }

    @Override
    public JavaFileObject getJavaFileForOutput(Location place, String name, JavaFileObject.Kind kind, FileObject from) {
      return new SimpleJavaFileObject(uri(name + ".class"), kind) {
        @Override
        public OutputStream openOutputStream() {
          ByteArrayOutputStream bytes = new ByteArrayOutputStream();
          classes.put(name, bytes);
          return bytes;
        }
      };
    }
  }
}
