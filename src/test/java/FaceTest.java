import java.io.IOException;
import java.lang.reflect.Constructor;
import java.lang.reflect.Field;
import java.lang.reflect.Method;
import java.lang.reflect.Modifier;
import java.nio.file.Files;
import java.nio.file.Path;
import java.util.ArrayList;
import java.util.Arrays;
import java.util.List;

/** "The public face": the class has just the members that the document names, each with the exceptions that it names. */
final class FaceTest {
    private static final String SOURCE = "src/main/java/CoastRadar.java";
    private static final String[] FACE = {
        "public CoastRadar()",
        "public int addStation(int x, int y, int range) throws IllegalArgumentException, IllegalStateException",
        "public int addPlace(boolean isArea, int x, int y, int u, int v) throws IllegalArgumentException, IllegalStateException",
        "public boolean sees(int station, int x, int y) throws IndexOutOfBoundsException, IllegalArgumentException",
        "public int level(int x, int y) throws IllegalArgumentException",
        "public int tune(int blur, int gate, int a, int b) throws IllegalArgumentException",
        "public int report(int station, int x, int y, int strength) throws IndexOutOfBoundsException, IllegalArgumentException",
        "public int blip(int blip, int what) throws IndexOutOfBoundsException",
        "public int sweep(int dt) throws IllegalArgumentException, IllegalStateException",
        "public int count(int what) throws IndexOutOfBoundsException",
        "public int name(int index) throws IndexOutOfBoundsException",
        "public int track(int name, int what) throws IndexOutOfBoundsException",
        "public int path(int name, int back, boolean isX) throws IndexOutOfBoundsException",
        "public double speed(int name) throws IndexOutOfBoundsException",
        "public long nearest(int a, int b) throws IndexOutOfBoundsException",
        "public int dangers(int limit) throws IllegalArgumentException",
        "public int inside(int area) throws IndexOutOfBoundsException",
        "public int event(int index, int what) throws IndexOutOfBoundsException",
        "public int mark()",
        "public int restore() throws IllegalStateException",
        "public long digest()",
    };
    /** "Ahead of the calls .. the interface says": what it says, and the first one of these calls. */
    private static final String[][] PARTS = {{"---- the coast", "addStation"}, {"---- blips and sweeps", "report"}, {"---- tracks", "name"},
        {"---- marks", "mark"}};
    private static final int CLASSES = 12;
    private static final int FIELDS = 20;
    private static final int PARAMETERS = 7;

    public static void main(String[] args) throws IOException {
        String source = Files.readString(Path.of(SOURCE)).replaceAll("\\s+", " ");
        theClass();
        theMembers();
        signaturesAsTheyAreWritten(source);
        partsOfTheFace(source);
        nothingElseIsOpen(CoastRadar.class);
        Checks.isTrue("LANGUAGE.md, rule 11: classes", CoastRadar.class.getDeclaredClasses().length < CLASSES);
        rulesOf(CoastRadar.class);
        for (Class<?> inside : CoastRadar.class.getDeclaredClasses()) {
            int modifiers = inside.getModifiers();
            Checks.isTrue("LANGUAGE.md, rule 1: " + inside.getName() + " is static", Modifier.isStatic(modifiers));
            Checks.isFalse("LANGUAGE.md, rule 1: " + inside.getName() + " is open",
                Modifier.isPublic(modifiers) || Modifier.isProtected(modifiers));
            rulesOf(inside);
        }
        Checks.end("FaceTest");
    }

    private static void theClass() {
        Checks.equal("public final class CoastRadar", CoastRadar.class.getModifiers(), Modifier.PUBLIC | Modifier.FINAL);
        Checks.text("it has no package", CoastRadar.class.getName(), "CoastRadar");
        Checks.text("nothing is extended", CoastRadar.class.getSuperclass().getName(), "java.lang.Object");
        Checks.equal("nothing is implemented", CoastRadar.class.getInterfaces().length, 0);
    }

    /** What is public, told as the document tells it, but without the names of the arguments. */
    private static void theMembers() {
        List<String> got = new ArrayList<>();
        for (Constructor<?> one : CoastRadar.class.getConstructors()) {
            got.add("public CoastRadar(" + names(one.getParameterTypes()) + ")" + thrown(one.getExceptionTypes()));
        }
        for (Method one : CoastRadar.class.getDeclaredMethods()) {
            if (Modifier.isPublic(one.getModifiers())) {
                got.add(Modifier.toString(one.getModifiers()) + " " + one.getReturnType() + " " + one.getName()
                    + "(" + names(one.getParameterTypes()) + ")" + thrown(one.getExceptionTypes()));
            }
        }
        List<String> due = new ArrayList<>();
        for (String signature : FACE) {
            due.add(signature.replaceAll("(int|boolean) \\w+([,)])", "$1$2"));
        }
        got.sort(null);
        due.sort(null);
        Checks.text("the public members", String.join("; ", got), String.join("; ", due));
    }

    private static String names(Class<?>[] types) {
        return String.join(", ", Arrays.stream(types).map(Class::getSimpleName).toList());
    }

    private static String thrown(Class<?>[] types) {
        return types.length == 0 ? "" : " throws " + names(types);
    }

    private static void signaturesAsTheyAreWritten(String source) {
        int from = 0;
        for (String signature : FACE) {
            int at = source.indexOf(signature + " {", from);
            Checks.isTrue("the source has, in the order of the document: " + signature, at >= 0);
            from = Math.max(from, at);
        }
    }

    private static void partsOfTheFace(String source) {
        for (String[] part : PARTS) {
            int at = source.indexOf(part[0] + " ");
            int next = at < 0 ? -1 : source.indexOf(" public ", at);
            String call = next < 0 ? "" : source.substring(next).replaceAll("^ public \\w+ (\\w+)\\(.*", "$1");
            Checks.text("the call behind " + part[0], call, part[1]);
        }
    }

    /** LANGUAGE.md, rule 1: "no other public, protected or package-visible member". */
    private static void nothingElseIsOpen(Class<?> face) {
        Checks.equal("constructors", face.getDeclaredConstructors().length, 1);
        for (Method one : face.getDeclaredMethods()) {
            int modifiers = one.getModifiers();
            Checks.isTrue("LANGUAGE.md, rule 1: " + one.getName() + "()",
                one.isSynthetic() || Modifier.isPublic(modifiers) || Modifier.isPrivate(modifiers));
        }
        for (Field one : face.getDeclaredFields()) {
            Checks.isTrue("LANGUAGE.md, rule 1: " + one.getName(), one.isSynthetic() || Modifier.isPrivate(one.getModifiers()));
        }
    }

    /** LANGUAGE.md, rules 5 and 11, as far as they can be told from outside. */
    private static void rulesOf(Class<?> one) {
        int fields = 0;
        for (Field field : one.getDeclaredFields()) {
            boolean isStatic = Modifier.isStatic(field.getModifiers());
            fields += isStatic ? 0 : 1;
            Checks.isTrue("LANGUAGE.md, rule 5: " + one.getName() + "." + field.getName(),
                !isStatic || Modifier.isFinal(field.getModifiers()) && isConstant(field.getType()));
        }
        Checks.isTrue("LANGUAGE.md, rule 11: fields of " + one.getName(), fields <= FIELDS);
        for (Method method : one.getDeclaredMethods()) {
            Checks.isTrue("LANGUAGE.md, rule 11: arguments of " + method.getName(), method.getParameterCount() <= PARAMETERS);
        }
    }

    private static boolean isConstant(Class<?> type) {
        return List.of(int.class, long.class, boolean.class, char.class, String.class, int[].class, long[].class, char[].class,
            byte[].class).contains(type);
    }
}
