import java.io.ByteArrayOutputStream;
import java.io.Closeable;
import java.io.IOException;
import java.io.InputStream;
import java.io.OutputStream;
import java.net.URI;
import java.util.HashMap;
import java.util.List;
import java.util.Map;
import javax.tools.FileObject;
import javax.tools.ForwardingJavaFileManager;
import javax.tools.JavaCompiler;
import javax.tools.JavaFileManager;
import javax.tools.JavaFileObject;
import javax.tools.SimpleJavaFileObject;
import javax.tools.StandardJavaFileManager;
import javax.tools.ToolProvider;

/** Compiles another source of CookieServer and loads the tests anew, so that they run on it. */
final class OtherProgram extends ClassLoader implements Closeable {
    private static final JavaCompiler COMPILER = ToolProvider.getSystemJavaCompiler();
    private static final StandardJavaFileManager FILES = COMPILER.getStandardFileManager(null, null, null);

    private final Map<String, ByteArrayOutputStream> compiled = new HashMap<>();

    OtherProgram(String source) throws IOException {
        super(ClassLoader.getPlatformClassLoader());
        JavaFileManager files = new IntoMemory();
        List<String> options = List.of("-proc:none", "-nowarn");
        if (!COMPILER.getTask(null, files, null, options, null, List.of(new Text(source))).call()) {
            throw new IOException("this does not compile: " + source);
        }
    }

    @Override
    protected Class<?> findClass(String name) throws ClassNotFoundException {
        byte[] code = compiled.containsKey(name) ? compiled.get(name).toByteArray() : ownCode(name);
        return defineClass(name, code, 0, code.length);
    }

    private static byte[] ownCode(String name) throws ClassNotFoundException {
        try (InputStream in = OtherProgram.class.getResourceAsStream(name.replace('.', '/') + ".class")) {
            if (in == null) {
                throw new ClassNotFoundException(name);
            }
            return in.readAllBytes();
        } catch (IOException e) {
            throw new ClassNotFoundException(name, e);
        }
    }

    @Override
    public void close() {
        compiled.clear();
    }

    private static final class Text extends SimpleJavaFileObject {
        private final String text;

        Text(String text) {
            super(URI.create("string:///CookieServer.java"), Kind.SOURCE);
            this.text = text;
        }

        @Override
        public CharSequence getCharContent(boolean ignoreEncodingErrors) {
            return text;
        }
    }

    private final class IntoMemory extends ForwardingJavaFileManager<StandardJavaFileManager> {
        IntoMemory() {
            super(FILES);
        }

        @Override
        public JavaFileObject getJavaFileForOutput(Location place, String name, JavaFileObject.Kind kind, FileObject from) {
            return new SimpleJavaFileObject(URI.create("memory:///" + name), kind) {
                @Override
                public OutputStream openOutputStream() {
                    ByteArrayOutputStream out = new ByteArrayOutputStream();
                    compiled.put(name, out);
                    return out;
                }
            };
        }
    }
}
