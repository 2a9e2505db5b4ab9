import java.io.IOException;
import java.lang.reflect.Constructor;
import java.lang.reflect.Field;
import java.lang.reflect.Method;
import java.lang.reflect.Modifier;
import java.nio.file.Files;
import java.nio.file.Path;
import java.util.Set;
import java.util.TreeSet;

/** The public face and those rules of LANGUAGE.md that can be seen from outside. It is run in the project's folder. */
public final class FaceTest {
    private static final Set<String> FACE = Set.of("int letter(int)", "int blank()", "int fault()", "int table()",
        "int player(int,int)", "int as(int,int)", "int hits(int,int)", "int toss(int)", "int anew()", "int bet(int,int)",
        "int be(int,int)", "int duel(int,int)", "int answer(int,int)", "int open(int)", "int ring()",
        "int odds(int,int,int)", "int see(int,int,boolean)", "int forget()", "int games(int,int,int)", "int image()",
        "int restore()", "int count(int)", "long digest()");

    public static void main(String[] args) throws IOException {
        methods();
        constructor();
        fields(TossRows.class);
        constants();
        classesInside();
        source();
        Check.end();
    }

    private static void methods() {
        Set<String> face = new TreeSet<>();
        Set<String> names = new TreeSet<>();
        for (Method method : TossRows.class.getDeclaredMethods()) {
            if (Modifier.isPublic(method.getModifiers())) {
                String types = method.toString().replaceAll(".*\\(", "(");
                face.add(method.getReturnType() + " " + method.getName() + types);
                Check.holds(method + " is not static", !Modifier.isStatic(method.getModifiers()));
                names.add(method.getName());
            }
        }
        Check.holds("the face is " + face, face.equals(FACE));
        for (Method method : TossRows.class.getDeclaredMethods()) {
            boolean isPrivate = Modifier.isPrivate(method.getModifiers());
            Check.holds(method + " is public or private", isPrivate || Modifier.isPublic(method.getModifiers()));
            Check.holds(method + " has a name of its own", !isPrivate || !names.contains(method.getName()));
        }
    }

    private static void constructor() {
        Constructor<?>[] constructors = TossRows.class.getDeclaredConstructors();
        Check.due("constructors", constructors.length, 1);
        Check.due("its parameters", constructors[0].getParameterCount(), 0);
        Check.holds("it is public", Modifier.isPublic(constructors[0].getModifiers()));
        Check.holds("the class is final", Modifier.isFinal(TossRows.class.getModifiers()));
    }

    private static void fields(Class<?> owner) {
        Set<String> open = new TreeSet<>();
        int own = 0;
        for (Field field : owner.getDeclaredFields()) {
            int modifiers = field.getModifiers();
            Check.holds(field + " is final, if static", !Modifier.isStatic(modifiers) || Modifier.isFinal(modifiers));
            own += Modifier.isStatic(modifiers) ? 0 : 1;
            if (!Modifier.isPrivate(modifiers)) {
                open.add(field.getName());
            }
        }
        Set<String> want = owner == TossRows.class ? Set.of("NONE", "UNKNOWN", "OUTSIDE", "STATE", "FULL") : Set.of();
        Check.holds("open fields of " + owner + " are " + open, open.equals(want));
        Check.holds("some twenty fields of " + owner + ": " + own, own <= 20);
    }

    private static void constants() {
        Check.due("NONE", TossRows.NONE, -1);
        Check.due("UNKNOWN", TossRows.UNKNOWN, -101);
        Check.due("OUTSIDE", TossRows.OUTSIDE, -102);
        Check.due("STATE", TossRows.STATE, -103);
        Check.due("FULL", TossRows.FULL, -104);
    }

    private static void classesInside() {
        Class<?>[] inside = TossRows.class.getDeclaredClasses();
        Check.holds("some twelve classes", inside.length < 12);
        for (Class<?> one : inside) {
            int modifiers = one.getModifiers();
            Check.holds(one + " is static", Modifier.isStatic(modifiers));
            Check.holds(one + " is not open", !Modifier.isPublic(modifiers) && !Modifier.isProtected(modifiers));
            fields(one);
        }
    }

    private static void source() throws IOException {
        String text = Files.readString(Path.of("src/main/java/TossRows.java"));
        String[] not = {"package ", "->", "::", "catch", "finally", "synchronized", "assert ", "Exact(", "System.out",
            "Object ", "double", "float", "@Override", "hashCode", "toString"};
        for (String word : not) {
            Check.holds("no '" + word + "'", !text.contains(word));
        }
        for (String line : text.split("\n")) {
            boolean isImport = line.startsWith("import ");
            Check.holds(line, !isImport || line.equals("import java.util.Arrays;"));
        }
    }
}
