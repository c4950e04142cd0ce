import java.lang.reflect.InvocationTargetException;
import java.lang.reflect.Method;
import java.util.HashMap;
import java.util.Map;

/** An object of FareyRank that is asked by texts, for at most as many calls as are promised. */
final class Subject {
    private static final int CALLS_MOST = 512;
    private static final Map<String, Method> METHODS = new HashMap<>();

    static {
        for (Method m : FareyRank.class.getMethods()) {
            if (m.getDeclaringClass() == FareyRank.class) {
                METHODS.put(m.getName(), m);
            }
        }
    }

    private final FareyRank x = new FareyRank();
    private int calls = 0;

    static boolean answersBoolean(String name) {
        return METHODS.get(name).getReturnType() == boolean.class;
    }

    /** A boolean counts 1 or 0. */
    long ask(String name, String... numbers) {
        Method method = METHODS.get(name);
        Class<?>[] types = method.getParameterTypes();
        if (types.length != numbers.length) {
            throw new IllegalStateException(name + " takes " + types.length + " numbers");
        }
        Object[] args = new Object[numbers.length];
        for (int i = 0; i < args.length; i++) {
            args[i] = numberOf(numbers[i].strip(), types[i] == long.class);
        }
        return invoke(method, args);
    }

    /** Feeds a text, filled up with zeros to whole feeds; calls study or tours with its length. */
    long askText(String name, String text) {
        long many = 0;
        for (int from = 0; from < text.length(); from += 20) {
            Object[] five = new Object[5];
            for (int i = 0; i < 5; i++) {
                five[i] = fourBytes(text, from + 4 * i);
            }
            many = invoke(METHODS.get("feed"), five);
        }
        return name.equals("feed") ? many : invoke(METHODS.get(name), text.length());
    }

    private static int fourBytes(String text, int from) {
        int four = 0;
        for (int i = from; i < from + 4; i++) {
            four = four << 8 | (i < text.length() ? text.charAt(i) & 255 : 0);
        }
        return four;
    }

    private static Object numberOf(String text, boolean isLong) {
        switch (text) {
            case "MAX":
                return isLong ? (Object) Long.MAX_VALUE : (Object) Integer.MAX_VALUE;
            case "MIN":
                return isLong ? (Object) Long.MIN_VALUE : (Object) Integer.MIN_VALUE;
            default:
                return isLong ? (Object) Long.valueOf(text) : (Object) Integer.valueOf(text);
        }
    }

    private long invoke(Method method, Object... args) {
        calls++;
        if (calls > CALLS_MOST) {
            throw new IllegalStateException("what a call behind the 512th answers is free");
        }
        try {
            Object got = method.invoke(x, args);
            return got instanceof Boolean b ? (b ? 1 : 0) : ((Number) got).longValue();
        } catch (InvocationTargetException e) {
            throw new IllegalStateException(method.getName() + " has thrown", e.getCause());
        } catch (IllegalAccessException e) {
            throw new IllegalStateException(e);
        }
    }
}
