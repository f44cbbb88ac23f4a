import java.lang.reflect.Method;
import java.lang.reflect.Modifier;
import java.util.HashMap;
import java.util.Map;

/**
 * An object that is asked by lines: "tone 0 11", or "tell 0123" to say these signs. Behind 512 calls all answers are
 * free, so that a test that asks more is wrong itself.
 */
final class Asked {
    private static final int CALLS = 512;
    private static final Map<String, Method> METHODS = new HashMap<>();

    static {
        for (Method method : RowForms.class.getDeclaredMethods()) {
            if (Modifier.isPublic(method.getModifiers())) {
                METHODS.put(method.getName(), method);
            }
        }
    }

    private final RowForms program = new RowForms();
    private int calls = 0;

    Asked(String... lines) {
        for (String line : lines) {
            ask(line);
        }
    }

    /** An object with that row as row 0. */
    static Asked withRow(String signs) {
        return told(signs, "load 0");
    }

    static Asked withPattern(String signs) {
        return told(signs, "punch");
    }

    private static Asked told(String signs, String line) {
        Asked x = new Asked("tell " + signs);
        if (x.ask(line) < 0) {
            throw new IllegalStateException(line + " is refused: " + signs);
        }
        return x;
    }

    int calls() {
        return calls;
    }

    int ask(String line) {
        String[] words = line.split(" ");
        if (words[0].equals("tell")) {
            return tell(words.length > 1 ? words[1] : "");
        }
        Object[] numbers = new Object[words.length - 1];
        for (int k = 0; k < numbers.length; k++) {
            numbers[k] = Integer.valueOf(words[k + 1]);
        }
        return call(words[0], numbers);
    }

    private int tell(String signs) {
        int many = 0;
        for (char sign : signs.toCharArray()) {
            many = call("say", (int) sign);
        }
        return many;
    }

    private int call(String name, Object... numbers) {
        calls++;
        if (calls > CALLS) {
            throw new IllegalStateException("this test asks more than " + CALLS + " times");
        }
        try {
            return (int) METHODS.get(name).invoke(program, numbers);
        } catch (ReflectiveOperationException failure) {
            throw new IllegalStateException(name + " failed", failure);
        }
    }

    String row(int row) {
        return Signs.of(12, place -> ask("tone " + row + " " + place));
    }

    String pattern() {
        return Signs.of(12, place -> ask("told " + (100 + place)));
    }

    String canon(int row) {
        return Signs.of(12, place -> ask("canon " + row + " " + place));
    }

    String filling(int form) {
        return Signs.of(12, place -> ask("filling " + form + " " + place));
    }

    String made(int n, int i) {
        return Signs.of(12, place -> ask("making 0 " + n + " " + i + " " + place));
    }

    String written(int row, int form) {
        StringBuilder text = new StringBuilder();
        int signs = ask("sign " + row + " " + form + " -1");
        for (int j = 0; j < signs; j++) {
            text.append((char) ask("sign " + row + " " + form + " " + j));
        }
        return text.toString();
    }
}
