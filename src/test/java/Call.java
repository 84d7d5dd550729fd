import java.lang.reflect.InvocationTargetException;
import java.lang.reflect.Method;
import java.lang.reflect.Modifier;
import java.util.HashMap;
import java.util.Map;

/** A call told as a text, such as "code(0, 50, 1500)"; MIN and MAX are the ends of int. */
final class Call {
    private static final long LONG_REFUSAL = 4000000000000000000L;
    private static final Map<String, Method> FACE = face();

    private final Method method;
    private final Object[] arguments;
    private final String text;

    private Call(String name, String[] words) {
        method = FACE.get(name);
        if (method == null) throw new IllegalArgumentException("no call " + name);
        Class<?>[] types = method.getParameterTypes();
        if (types.length != words.length) throw new IllegalArgumentException(name + " takes " + types.length);
        arguments = new Object[words.length];
        for (int i = 0; i < words.length; i++) {
            if (types[i] == boolean.class) arguments[i] = Boolean.valueOf(words[i]);
            else arguments[i] = number(words[i]);
        }
        text = name + "(" + String.join(", ", words) + ")";
    }

    static Call of(String text) {
        int open = text.indexOf('(');
        String inside = text.substring(open + 1, text.lastIndexOf(')')).trim();
        String[] words = inside.isEmpty() ? new String[0] : inside.split(" *, *");
        return new Call(text.substring(0, open), words);
    }

    /** For a boolean 1 is true and 0 is false. */
    static Call of(String name, int[] numbers) {
        String[] words = new String[numbers.length];
        Method method = FACE.get(name);
        for (int i = 0; i < numbers.length; i++) {
            boolean truth = method != null && method.getParameterTypes()[i] == boolean.class;
            words[i] = truth ? Boolean.toString(numbers[i] == 1) : Integer.toString(numbers[i]);
        }
        return new Call(name, words);
    }

    static int number(String word) {
        if (word.equals("MIN")) return Integer.MIN_VALUE;
        if (word.equals("MAX")) return Integer.MAX_VALUE;
        return Integer.parseInt(word);
    }

    private static Map<String, Method> face() {
        Map<String, Method> all = new HashMap<>();
        for (Method method : DoorStars.class.getDeclaredMethods()) {
            if (Modifier.isPublic(method.getModifiers())) all.put(method.getName(), method);
        }
        return all;
    }

    long on(DoorStars x) {
        try {
            return ((Number) method.invoke(x, arguments)).longValue();
        } catch (InvocationTargetException thrown) {
            throw new IllegalStateException(text + " threw", thrown.getCause());
        } catch (IllegalAccessException hidden) {
            throw new IllegalStateException(text, hidden);
        }
    }

    /** What this call answers if it is refused with that number. */
    long refusal(int number) {
        return method.getReturnType() == long.class ? LONG_REFUSAL - number : number;
    }

    /** -9 and parts above below 0 are no refusals. */
    boolean isRefusal(long answer) {
        if (method.getReturnType() == long.class) return answer > LONG_REFUSAL;
        return answer < 0 && answer >= -7;
    }

    @Override
    public String toString() {
        return text;
    }
}
