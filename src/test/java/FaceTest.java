import java.lang.reflect.Constructor;
import java.lang.reflect.Field;
import java.lang.reflect.Method;
import java.lang.reflect.Modifier;
import java.nio.file.Files;
import java.nio.file.Path;
import java.util.Arrays;
import java.util.Set;
import java.util.TreeSet;

/** LANGUAGE.md: the face is the document's and nothing else, and the forbidden words are not there. */
public final class FaceTest {
    private static final String FACE = "feed(int,int,int,int,int)int end(int)int map()int law()int fault(int)int"
        + " lift(int,int)int wind(int)int top(int)int shut(int,int,int)int move(int,int,int,int,int)int"
        + " task(int,int,int,int)boolean soonest(int,int,int,int,int)int way(int,int,int,int,int,int)int"
        + " safe(int,int,int,int)int field(int,int,int)boolean launch(boolean,int)int launched(int,int)int pilot(int)int"
        + " fix(int,int,int,int)int untell(int)boolean later(int)int zone(int)boolean rounded(int,boolean,int)int"
        + " flown(int,int,int)int score(int,int)int rank(int,int)int out(int)int fetched()int minutes(int,int)int"
        + " home(int,int)int trailer(int,int,int)int about(int)int";

    public static void main(String[] args) throws Exception {
        theFace();
        classesInside();
        theSource(args.length > 0 ? args[0] : "src/main/java/SoarHouse.java");
        Due.close();
    }

    private static void theFace() {
        Set<String> names = new TreeSet<>();
        Set<String> got = new TreeSet<>();
        for (Method method : SoarHouse.class.getDeclaredMethods()) {
            if (!Modifier.isPrivate(method.getModifiers())) {
                StringBuilder name = new StringBuilder(method.getName()).append('(');
                Class<?>[] types = method.getParameterTypes();
                for (int i = 0; i < types.length; i++) {
                    name.append(i == 0 ? "" : ",").append(types[i].getName());
                }
                got.add(name.append(')').append(method.getReturnType().getName()).toString());
                names.add(method.getName());
                Due.is(name + " is public", Modifier.isPublic(method.getModifiers()), true);
            }
        }
        Set<String> want = new TreeSet<>(Arrays.asList(FACE.split(" ")));
        Due.is("the face " + got + " is " + want, got.equals(want), true);
        for (Class<?> inside : SoarHouse.class.getDeclaredClasses()) {
            for (Method method : inside.getDeclaredMethods()) {
                Due.is(inside + " has " + method.getName(), names.contains(method.getName()), false);
            }
        }
        for (Field field : SoarHouse.class.getDeclaredFields()) {
            boolean isPublic = field.getName().equals("NONE");
            Due.is(field.getName(), Modifier.isPublic(field.getModifiers()), isPublic);
            Due.is(field.getName(), Modifier.isPrivate(field.getModifiers()), !isPublic);
        }
        Constructor<?>[] constructors = SoarHouse.class.getDeclaredConstructors();
        Due.is("constructors", constructors.length, 1);
        Due.is("without parameters", constructors[0].getParameterCount(), 0);
        Due.is("final", Modifier.isFinal(SoarHouse.class.getModifiers()), true);
        Due.is("NONE", SoarHouse.NONE, -1);
    }

    private static void classesInside() {
        Class<?>[] inside = SoarHouse.class.getDeclaredClasses();
        Due.is("classes", inside.length <= 11, true);
        for (Class<?> one : inside) {
            Due.is(one + " is static", Modifier.isStatic(one.getModifiers()), true);
            int fields = 0;
            for (Field field : one.getDeclaredFields()) {
                boolean isStatic = Modifier.isStatic(field.getModifiers());
                fields += isStatic ? 0 : 1;
                Due.is(field + " static and not final", isStatic && !Modifier.isFinal(field.getModifiers()), false);
            }
            Due.is(one + " has few fields", fields <= 20, true);
            for (Method method : one.getDeclaredMethods()) {
                Due.is(method + " has few parameters", method.getParameterCount() <= 7, true);
            }
        }
    }

    private static void theSource(String path) throws Exception {
        String source = Files.readString(Path.of(path));
        String code = source.replaceAll("(?s)/\\*.*?\\*/", " ").replaceAll("//[^\n]*", " ")
            .replaceAll("\"[^\"]*\"", "\"\"");
        for (String word : ("throw throws try catch finally synchronized assert package goto native volatile transient"
            + " var yield record sealed").split(" ")) {
            Due.is("the word " + word, code.matches("(?s).*\\b" + word + "\\b.*"), false);
        }
        Due.is("lambdas and references", code.contains("->") || code.contains("::"), false);
        Due.is("static blocks", code.matches("(?s).*static\\s*\\{.*"), false);
        Due.is("clock and chance", code.matches("(?s).*\\b(System\\.(?!arraycopy)|Random|Thread).*"), false);
        Due.is("tabs", source.indexOf('\t') >= 0, false);
        for (String line : source.split("\n")) {
            Due.is("a long line: " + line, line.length() <= 180, true);
        }
        for (char sign : source.toCharArray()) {
            if (sign > 126) {
                Due.is("a sign " + (int) sign, sign, 0);
            }
        }
    }
}
