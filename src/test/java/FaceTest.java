import java.io.IOException;
import java.lang.reflect.InvocationTargetException;
import java.lang.reflect.Member;
import java.lang.reflect.Method;
import java.lang.reflect.Modifier;
import java.nio.file.Files;
import java.nio.file.Path;
import java.util.ArrayList;
import java.util.Arrays;
import java.util.Comparator;
import java.util.List;
import java.util.Random;
import java.util.Set;
import java.util.TreeSet;

/** The face is the document's, and whatever is asked, no call throws but what it says, and by a throw statement. */
public final class FaceTest {
    private static final String FACE = "feed house fault pane kind next hated never hang of light by dark judge out spare "
        + "angry oil lights best gap bright always ever barred day mixed grid hole which walk carry cost owed upper lower "
        + "sooner round rule look night tray write pour image restore count";
    private static final Path DOCUMENT = Path.of("../shared/DOC.md");
    private static final int[] ODD = {Integer.MIN_VALUE, Integer.MAX_VALUE, -1000000, 1000000, 65536, 16777215, 16777216, 800};

    private FaceTest() {
    }

    public static void main(String[] args) throws ReflectiveOperationException, IOException {
        face();
        declared();
        names();
        Random draw = new Random(512);
        for (int i = 0; i < 400; i++) {
            run(draw);
        }
        Check.end("FaceTest");
    }

    private static void face() {
        Set<String> due = new TreeSet<>(Arrays.asList(FACE.split(" ")));
        Set<String> got = new TreeSet<>();
        for (Method m : LitNextDoor.class.getDeclaredMethods()) {
            if (Modifier.isPublic(m.getModifiers())) {
                got.add(m.getName());
            } else {
                Check.due(m + " is private", Modifier.isPrivate(m.getModifiers()), true);
            }
        }
        Check.due("methods of the face " + got, got.equals(due), true);
        List<Member> others = new ArrayList<>();
        others.addAll(Arrays.asList(LitNextDoor.class.getDeclaredFields()));
        others.addAll(Arrays.asList(LitNextDoor.class.getDeclaredConstructors()));
        int seen = 0;
        for (Member m : others) {
            seen += Modifier.isPrivate(m.getModifiers()) ? 0 : 1;
        }
        Check.due("fields and constructors that can be seen", seen, 2);
        Check.due("the class is final", Modifier.isFinal(LitNextDoor.class.getModifiers()), true);
    }

    /** Each line of the document's face stands in the program: types, parameters and what is thrown, in its order. */
    private static void declared() throws IOException {
        if (!Files.exists(DOCUMENT)) {
            System.out.println("FaceTest: there is no document to look at");
            return;
        }
        String document = Files.readString(DOCUMENT);
        String program = Files.readString(Path.of("src/main/java/LitNextDoor.java")).replaceAll("\\s+", " ");
        int from = document.indexOf("```java", document.indexOf("## The public face"));
        int seen = 0;
        for (String line : document.substring(from, document.indexOf("```", from + 3)).split("\n")) {
            String told = line.trim();
            if (told.startsWith("public ")) {
                String due = told.contains("(") ? told.replace(";", " {") : told;
                Check.due("the program has " + due, program.contains(due), true);
                seen++;
            }
        }
        // the class, its constant, its constructor and its methods
        Check.due("lines of the document's face", seen, 3 + FACE.split(" ").length);
    }

    private static void names() {
        Set<String> face = new TreeSet<>(Arrays.asList(FACE.split(" ")));
        for (Class<?> inside : LitNextDoor.class.getDeclaredClasses()) {
            Check.due(inside + " is static", Modifier.isStatic(inside.getModifiers()), true);
            for (Method m : inside.getDeclaredMethods()) {
                Check.due(m + " bears no name of the face", face.contains(m.getName()), false);
            }
        }
        for (Method m : LitNextDoor.class.getDeclaredMethods()) {
            if (!Modifier.isPublic(m.getModifiers())) {
                Check.due(m + " bears no name of the face", face.contains(m.getName()), false);
            }
        }
    }

    private static void run(Random draw) throws ReflectiveOperationException {
        StringBuilder text = new StringBuilder();
        int rooms = draw.nextInt(17);
        LitNextDoor x = new LitNextDoor();
        if (rooms > 0) {
            Model.drawn(draw, rooms, draw.nextInt(2 * rooms), text);
            Check.house(x, text.toString());
        }
        List<Method> calls = new ArrayList<>(Arrays.asList(LitNextDoor.class.getDeclaredMethods()));
        calls.removeIf(m -> !Modifier.isPublic(m.getModifiers()));
        calls.sort(Comparator.comparing(Method::getName));
        for (int i = 0; i < 450; i++) {
            Method call = calls.get(draw.nextInt(calls.size()));
            // Most draws of house() would leave a house without rooms.
            if (!call.getName().equals("house") || draw.nextInt(20) == 0) {
                ask(x, call, draw);
            }
        }
    }

    private static void ask(LitNextDoor x, Method call, Random draw) throws ReflectiveOperationException {
        Class<?>[] types = call.getParameterTypes();
        Object[] given = new Object[types.length];
        for (int i = 0; i < types.length; i++) {
            given[i] = types[i] == boolean.class ? (Object) draw.nextBoolean()
                : types[i] == long.class ? (Object) (long) number(draw) : (Object) number(draw);
        }
        String told = call.getName() + Arrays.toString(given);
        try {
            call.invoke(x, given);
            Check.due(told, true, true);
        } catch (InvocationTargetException e) {
            boolean named = e.getCause() instanceof RuntimeException
                && Arrays.asList(call.getExceptionTypes()).contains(e.getCause().getClass())
                && Check.byProgram((RuntimeException) e.getCause()).isEmpty();
            Check.due(told + " threw " + e.getCause(), named, true);
        }
    }

    private static int number(Random draw) {
        switch (draw.nextInt(8)) {
            case 0: return ODD[draw.nextInt(ODD.length)];
            case 1: return draw.nextInt();
            case 2: return draw.nextInt(50) - 5;
            case 3: return draw.nextInt(65536);
            default: return draw.nextInt(8) - 1;
        }
    }
}
