import java.io.IOException;
import java.lang.management.ManagementFactory;
import java.lang.reflect.Constructor;
import java.lang.reflect.Field;
import java.lang.reflect.Method;
import java.lang.reflect.Modifier;
import java.nio.file.Files;
import java.nio.file.Path;
import java.util.ArrayList;
import java.util.Arrays;
import java.util.List;
import java.util.Set;
import java.util.TreeSet;
import java.util.function.IntConsumer;
import java.util.regex.Matcher;
import java.util.regex.Pattern;

/** The face of the class, the rules of LANGUAGE.md that a test can see, and the room that a run may take. */
public final class RowFormsRules extends Due {
    private static final String FACE = "back(1) behind(2) canon(2) derived(2) fault(1) filling(2) fillings(1) image(1) "
        + "leads(3) load(1) making(4) named(0) partner(2) punch(0) restore(1) say(1) shared(3) sign(3) step(2) "
        + "told(1) tone(2) turn(3) wipe(0)";
    private static final String CONSTANTS = "FULL=-4 NO=-5 NONE=-6 OUTSIDE=-2 STATE=-3 UNKNOWN=-1";
    /** What no line of the code may hold; an arrow may stand behind a switch's case, but not for a lambda. */
    private static final String[] FORBIDDEN = {"\\b(throws?|try|catch|finally|synchronized|assert)\\b",
        "^(?!\\s*(case\\b|default\\b)).*->", "::", "^\\s*package\\b",
        "^\\s*import (?!java\\.util\\.(ArrayList|List|Arrays|Iterator);)", "Exact\\b", "\\bObject\\b",
        "\\bSystem\\.(?!arraycopy)", "\\.(hashCode|getClass|random|nanoTime)\\b"};
    private static final Set<String> NOT_OF_ONES_OWN = Set.of("equals", "hashCode", "toString");
    private static final int MOST_CLASSES = 12;
    private static final int MOST_FIELDS = 20;
    private static final int MOST_PARAMETERS = 7;
    private static final int MOST_LINES = 60;
    private static final int CALLS = 512;
    /** 7.3 million fields and elements of a byte or more, and 600,000 objects of sixteen, would take more than this. */
    private static final long MOST_BYTES = 7_300_000;

    public static void main(String[] args) throws IOException, IllegalAccessException {
        theFace();
        theConstants();
        theNames();
        theClasses();
        theSource(Path.of("src/main/java/RowForms.java"));
        theRoom();
        end();
    }

    private static void theFace() {
        Set<String> methods = new TreeSet<>();
        for (Method method : RowForms.class.getDeclaredMethods()) {
            if (!Modifier.isPrivate(method.getModifiers())) {
                methods.add(method.getName() + "(" + method.getParameterCount() + ")");
                String is = Modifier.toString(method.getModifiers());
                due(method.getName(), is + " " + method.getReturnType(), "public int");
            }
        }
        due("methods", String.join(" ", methods), FACE);
        Constructor<?>[] constructors = RowForms.class.getDeclaredConstructors();
        due("constructors", Arrays.toString(constructors), "[public RowForms()]");
        due("class", Modifier.toString(RowForms.class.getModifiers()), "public final");
    }

    private static void theConstants() throws IllegalAccessException {
        Set<String> constants = new TreeSet<>();
        for (Field field : RowForms.class.getDeclaredFields()) {
            int is = field.getModifiers();
            if (!Modifier.isPrivate(is)) {
                constants.add(field.getName() + "=" + field.get(null));
                due(field.getName(), Modifier.toString(is) + " " + field.getType(), "public static final int");
            }
        }
        due("constants", String.join(" ", constants), CONSTANTS);
    }

    private static List<Class<?>> allClasses() {
        List<Class<?>> all = new ArrayList<>(List.of(RowForms.class));
        all.addAll(List.of(RowForms.class.getDeclaredClasses()));
        return all;
    }

    private static void theNames() {
        for (Class<?> one : allClasses()) {
            for (Method method : one.getDeclaredMethods()) {
                String name = method.getName();
                if (Modifier.isPrivate(method.getModifiers())) {
                    due("a private method bears a public name: " + name, "" + (" " + FACE).contains(" " + name + "("),
                        "false");
                }
                due("an object's own " + name, "" + (!one.isRecord() && NOT_OF_ONES_OWN.contains(name)), "false");
            }
        }
    }

    private static void theClasses() {
        due("too many classes", "" + (allClasses().size() > MOST_CLASSES), "false");
        for (Class<?> one : allClasses()) {
            int fields = 0;
            for (Field field : one.getDeclaredFields()) {
                boolean isStatic = Modifier.isStatic(field.getModifiers());
                due(field + " is static and can change", "" + (isStatic && !Modifier.isFinal(field.getModifiers())),
                    "false");
                fields += isStatic ? 0 : 1;
            }
            due(one + " has too many fields", "" + (fields > MOST_FIELDS), "false");
            for (Method method : one.getDeclaredMethods()) {
                due(method + " takes too much", "" + (method.getParameterCount() > MOST_PARAMETERS), "false");
            }
        }
        for (Class<?> inside : RowForms.class.getDeclaredClasses()) {
            int is = inside.getModifiers();
            due(inside + " is static", "" + Modifier.isStatic(is), "true");
            due(inside + " is seen from outside", "" + (Modifier.isPublic(is) || Modifier.isProtected(is)), "false");
        }
    }

    private static void theSource(Path file) throws IOException {
        String code = Files.readString(file).replaceAll("(?s)/\\*.*?\\*/", "").replaceAll("//[^\n]*", "");
        for (String words : FORBIDDEN) {
            Matcher found = Pattern.compile(words, Pattern.MULTILINE).matcher(code);
            due("the code, by " + words, found.find() ? found.group() : "", "");
        }
        int lines = 0;
        for (String line : code.split("\n")) {
            lines = line.matches("    (    )?\\}") || line.isBlank() ? 0 : lines + 1;
            due("a method of over sixty lines", "" + (lines > MOST_LINES), "false");
        }
    }

    /** 512 calls of each kind, the dearest arguments among them, on one object. */
    private static void theRoom() {
        room("making", x -> i -> x.making(0, 3, i % 2 == 0 ? -1 : 1295, i % 2 == 0 ? 0 : 11));
        room("fillings", x -> i -> x.fillings(i % 48));
        room("filling", x -> i -> x.filling(i % 48, i % 12));
        room("canon", x -> i -> x.canon(0, i % 14));
        room("shared", x -> i -> x.shared(0, i % 48, 2 + i % 5));
        room("leads", x -> i -> x.leads(0, 1, -1));
        room("partner", x -> i -> x.partner(0, -1));
        room("derived", x -> i -> x.derived(0, 3));
        room("sign", x -> i -> x.sign(0, i % 48, i % 18));
        room("turn", x -> i -> x.turn(0, i % 48, i % 4));
        room("image", x -> i -> x.image(i % 2));
        room("restore", x -> i -> x.restore(i % 2));
        room("say", x -> i -> x.say(33 + i % 94));
        room("told", x -> i -> x.told(i % 300));
    }

    private interface Calls {
        IntConsumer on(RowForms x);
    }

    private static void room(String name, Calls calls) {
        com.sun.management.ThreadMXBean memory = (com.sun.management.ThreadMXBean) ManagementFactory.getThreadMXBean();
        long least = Long.MAX_VALUE;
        // The least of a few tries, as the machine itself makes objects when it first meets a call.
        for (int time = 0; time < 5; time++) {
            long before = memory.getCurrentThreadAllocatedBytes();
            RowForms x = new RowForms();
            for (char sign : "0481592637te".toCharArray()) {
                x.say(sign);
            }
            x.load(0);
            IntConsumer call = calls.on(x);
            for (int i = 0; i < CALLS - 13; i++) {
                call.accept(i);
            }
            least = Math.min(least, memory.getCurrentThreadAllocatedBytes() - before);
        }
        due(name + " takes too much room (" + least + " bytes)", "" + (least > MOST_BYTES), "false");
    }
}
