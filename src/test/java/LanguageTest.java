import java.io.IOException;
import java.lang.reflect.Field;
import java.lang.reflect.Method;
import java.lang.reflect.Modifier;
import java.nio.charset.StandardCharsets;
import java.nio.file.Files;
import java.nio.file.Path;
import java.util.Set;
import java.util.TreeSet;
import java.util.regex.Pattern;

/** Those rules of LANGUAGE.md that a test can see: the face, what stands in the file, what a run of calls makes. */
public final class LanguageTest {
    private static final String FACE = "type(long,int) clear() square() wall(int,int) person(int,int) picture(int,int) where(int,int)"
            + " on(int,int,int) shows(int) view(int,int,int,int,int) hidden(int,int) from(int,int,int,int) fact(int,int,int,int)"
            + " right(int) seen(int,int,int,int) joined() forget() all(int,int,int) has(int,int) hat(int) near(int,int,int)"
            + " empty(int,int) waits(int) lost() told(int,int) rule(int) untrue(int,int) rate(int,int) keep(int) back(int)"
            + " count(int) trace()";
    private static final String[] FORBIDDEN = {"\\bthrow\\b", "\\btry\\b", "\\bcatch\\b", "\\bfinally\\b", "\\bsynchronized\\b",
        "\\bassert\\b", "->", "::", "\\bstatic\\s*\\{", "Exact\\b", "\\bprotected\\b", "\\bpackage\\b", "[^\\x00-\\x7f]",
        "\\bimport\\s+(?!java\\.util\\.(Arrays|ArrayList|List|Iterator);)", "\\bSystem\\.(?!arraycopy\\b)", "\\bRandom\\b", "\\bThread\\b"};
    private static final String TEXT = "square 12 12;wall 2 2;person 1 1 0 0 99 1;person 2 0 1 1 99 1;picture 0 0 0 9 0;picture 0 0 0 9 1;";
    private static final Due DUE = new Due();

    public static void main(String[] args) throws IOException {
        face();
        classes();
        source();
        room();
        DUE.end();
    }

    private static void face() {
        Set<String> faces = new TreeSet<>();
        Set<String> names = new TreeSet<>();
        for (Method method : SquareAlbum.class.getDeclaredMethods()) {
            if (Modifier.isPublic(method.getModifiers())) {
                String types = java.util.Arrays.toString(method.getParameterTypes()).replaceAll("[\\[\\] ]", "");
                faces.add(method.getName() + "(" + types + ")");
                names.add(method.getName());
                Class<?> answers = method.getName().equals("trace") ? long.class : int.class;
                DUE.due("answer of " + method.getName(), method.getReturnType() == answers ? 1 : 0, 1);
            } else {
                DUE.due("private: " + method.getName(), Modifier.isPrivate(method.getModifiers()) ? 1 : 0, 1);
            }
        }
        DUE.due("the face", faces.equals(new TreeSet<>(Set.of(FACE.split(" ")))) ? 1 : 0, 1);
        for (Method method : SquareAlbum.class.getDeclaredMethods()) {
            boolean isLike = !Modifier.isPublic(method.getModifiers()) && names.contains(method.getName());
            DUE.due("another name than a public one: " + method.getName(), isLike ? 1 : 0, 0);
        }
        DUE.due("public fields", SquareAlbum.class.getFields().length, 5);
        DUE.due("constructors", SquareAlbum.class.getConstructors().length, 1);
        DUE.due("final", Modifier.isFinal(SquareAlbum.class.getModifiers()) ? 1 : 0, 1);
    }

    private static void classes() {
        DUE.due("at most twelve classes", SquareAlbum.class.getDeclaredClasses().length < 12 ? 1 : 0, 1);
        look(SquareAlbum.class);
        for (Class<?> inside : SquareAlbum.class.getDeclaredClasses()) {
            DUE.due("static: " + inside, Modifier.isStatic(inside.getModifiers()) ? 1 : 0, 1);
            look(inside);
        }
    }

    private static void look(Class<?> type) {
        int fields = 0;
        for (Field field : type.getDeclaredFields()) {
            int is = field.getModifiers();
            boolean isFace = Modifier.isPublic(is) && type == SquareAlbum.class;
            DUE.due("private or of the face: " + field, Modifier.isPrivate(is) || isFace ? 1 : 0, 1);
            DUE.due("static fields are final: " + field, Modifier.isStatic(is) && !Modifier.isFinal(is) ? 1 : 0, 0);
            fields += Modifier.isStatic(is) ? 0 : 1;
        }
        DUE.due("at most twenty fields: " + type, fields <= 20 ? 1 : 0, 1);
        for (Method method : type.getDeclaredMethods()) {
            DUE.due("at most seven numbers: " + method, method.getParameterCount() <= 7 ? 1 : 0, 1);
        }
    }

    private static void source() throws IOException {
        Path file = Path.of(System.getProperty("project", "."), "src/main/java/SquareAlbum.java");
        String source = Files.readString(file, StandardCharsets.UTF_8);
        String code = source.replaceAll("(?s)/\\*.*?\\*/", "").replaceAll("//[^\n]*", "");
        for (String forbidden : FORBIDDEN) {
            DUE.due("not in the file: " + forbidden, Pattern.compile(forbidden).matcher(code).find() ? 1 : 0, 0);
        }
        int methods = 0;
        int begun = 0;
        String end = "";
        String[] lines = source.split("\n");
        for (int k = 0; k < lines.length; k++) {
            if (lines[k].matches("( {4}| {8})(public|private|static|int|long|void|boolean|Notes\\(|[A-Z]\\w+ ).*\\) \\{")) {
                methods++;
                begun = k;
                end = lines[k].replaceAll("[^ ].*", "}");
            } else if (lines[k].equals(end)) {
                DUE.due("at most sixty lines: " + lines[begun], k - begun < 60 ? 1 : 0, 1);
                end = "";
            }
        }
        DUE.due("methods were found", methods > 60 ? 1 : 0, 1);
    }

    /** All calls of a run live in one room, so calls make no objects: the rows are made with the album. */
    private static void room() {
        var threads = (com.sun.management.ThreadMXBean) java.lang.management.ManagementFactory.getThreadMXBean();
        SquareAlbum album = new SquareAlbum();
        useAll(album);
        long before = threads.getThreadAllocatedBytes(Thread.currentThread().getId());
        useAll(album);
        long made = threads.getThreadAllocatedBytes(Thread.currentThread().getId()) - before;
        DUE.due("calls make no objects, but " + made + " bytes came", made < 2000 ? 1 : 0, 1);
    }

    private static void useAll(SquareAlbum album) {
        for (int k = 0; k < 20; k++) {
            for (int at = 0; at < TEXT.length(); at++) {
                album.type(TEXT.charAt(at), 1);
            }
            album.square();
            album.type(0x3b3b, 2);
            album.square();
            album.clear();
            album.fact(0, k, 1, k);
            album.right(1);
            album.seen(k % 3, 1, k, 1);
            album.joined();
            album.from(0, 9, k, 0);
            album.from(0, 9, k, 1);
            album.hidden(0, 0);
            album.all(0, 1, 0);
            album.has(0, 1);
            album.has(1, 0);
            album.near(1, 1, 3);
            album.empty(0, 0);
            album.lost();
            album.told(0, 1);
            album.rule(0);
            album.rate(3, 0);
            album.keep(0);
            album.back(0);
        }
    }
}
