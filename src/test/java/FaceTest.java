import java.io.IOException;
import java.lang.reflect.Constructor;
import java.lang.reflect.Field;
import java.lang.reflect.Method;
import java.lang.reflect.Modifier;
import java.nio.file.Files;
import java.nio.file.Path;
import java.util.NoSuchElementException;
import java.util.Set;
import java.util.TreeSet;

/** The document's face, and those rules of LANGUAGE.md that can be looked for. Runs in the project's folder. */
public final class FaceTest {
    private static final String FACE = "feed(int,int,int,int,int)int end(int)boolean terrace()int fault()int "
        + "room(int,int)int owner(int,int)int passage(int,int)int now(int)int go(int,int)int leave(int)boolean "
        + "sell(int,int,int)int let(int,int,int)int will(int,int)int die(int)int shut(int,int)int burn(int)int "
        + "minutes(int)int undo()int way(int,int)int step(int)int barred(int)int asks(int,int)int asked()int "
        + "through(int,int)int fire(int)int spread(int)int cut(int)int exchange(int)int rings()int prices()int "
        + "price(int)int wants(int)int walked()int corridor(int)int heir(int)int guests(int)int mixed()int "
        + "drawn(int,int)int odds(int,int,int)int book(int)int booked(int)int sentence()int said(int)int "
        + "image(int)boolean restore(int)boolean count(int)int";

    public static void main(String[] args) throws Exception {
        face();
        members();
        source();
        Check.close();
    }

    private static String signature(Method method) {
        StringBuilder text = new StringBuilder(method.getName()).append('(');
        String comma = "";
        for (Class<?> type : method.getParameterTypes()) {
            text.append(comma).append(type.getName());
            comma = ",";
        }
        return text.append(')').append(method.getReturnType().getName()).toString();
    }

    private static void face() throws Exception {
        Set<String> want = new TreeSet<>(Set.of(FACE.split(" ")));
        Set<String> found = new TreeSet<>();
        for (Method method : WardrobeRow.class.getDeclaredMethods()) {
            if (!Modifier.isPrivate(method.getModifiers())) {
                Check.due(method.getName() + " is public", Modifier.isPublic(method.getModifiers()), true);
                found.add(signature(method));
            }
        }
        Check.due("the face is " + found, found.equals(want), true);
        Check.due("47 promises, 46 methods", found.size(), 46);
        Class<?>[] thrown = WardrobeRow.class.getMethod("room", int.class, int.class).getExceptionTypes();
        Check.due("room throws", thrown.length == 1 && thrown[0] == NoSuchElementException.class, true);
        Check.due("public final", WardrobeRow.class.getModifiers(), Modifier.PUBLIC | Modifier.FINAL);
        Check.due("NONE", WardrobeRow.NONE, -1);
    }

    private static void members() {
        Set<String> names = new TreeSet<>();
        for (String method : FACE.split(" ")) {
            names.add(method.substring(0, method.indexOf('(')));
        }
        Constructor<?>[] makers = WardrobeRow.class.getDeclaredConstructors();
        Check.due("one constructor, public, of nothing", makers.length == 1
            && Modifier.isPublic(makers[0].getModifiers()) && makers[0].getParameterCount() == 0, true);
        for (Field field : WardrobeRow.class.getDeclaredFields()) {
            boolean none = field.getName().equals("NONE");
            Check.due(field.getName() + " is private", Modifier.isPrivate(field.getModifiers()), !none);
        }
        for (Method method : WardrobeRow.class.getDeclaredMethods()) {
            boolean hidden = Modifier.isPrivate(method.getModifiers());
            Check.due(method + " bears a public name", hidden && names.contains(method.getName()), false);
        }
        Class<?>[] inside = WardrobeRow.class.getDeclaredClasses();
        Check.due("twelve classes at most, not " + (inside.length + 1), inside.length <= 11, true);
        for (Class<?> nested : inside) {
            Check.due(nested + " is static", Modifier.isStatic(nested.getModifiers()), true);
            int own = 0;
            for (Field field : nested.getDeclaredFields()) {
                boolean constant = Modifier.isStatic(field.getModifiers());
                own += constant ? 0 : 1;
                Check.due(field + " is final if static", !constant || Modifier.isFinal(field.getModifiers()), true);
            }
            Check.due(nested + " has few fields", own <= 20, true);
            for (Method method : nested.getDeclaredMethods()) {
                Check.due(method + " bears a public name", names.contains(method.getName()), false);
            }
        }
    }

    private static void source() throws IOException {
        String text = Files.readString(Path.of("src/main/java/WardrobeRow.java"));
        String[] ruledOut = {"package ", "try ", "catch", "finally", "->", "::", "synchronized", "assert ", "instanceof",
            "Exact(", "System.out", "Random", "nanoTime", "currentTimeMillis", "Thread", "lambda", "record ", "double",
            "float", "hashCode", "toString", "getClass", "while (true)", "for (;;)", "String.format", "\t"};
        for (String part : ruledOut) {
            Check.due("'" + part + "' in the source", text.contains(part), false);
        }
        int imports = 0;
        int length = 0;
        for (String line : text.split("\n")) {
            imports += line.startsWith("import ") ? 1 : 0;
            Check.due("a line of 130 at most: " + line, line.length() <= 130, true);
            // a method begins at a line that ends with ') {' and is no statement; it ends at a brace as far in
            boolean opens = line.matches(" {4}( {4})?(public |private |static )*\\w[\\w\\[\\]]* ?\\w*\\(.*\\{");
            length = opens ? 1 : length + 1;
            if (line.matches(" {4}( {4})?}")) {
                Check.due("a method of 60 lines at most ends at " + line, length <= 60 || length > 130, true);
            }
        }
        Check.due("imports", imports, 2);
    }
}
