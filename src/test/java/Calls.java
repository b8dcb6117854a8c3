import java.lang.reflect.InvocationTargetException;
import java.lang.reflect.Method;
import java.lang.reflect.Modifier;
import java.util.HashMap;
import java.util.Map;

/** The calls of one object, the class's or the model's, made by their names or as they stand in a text. */
final class Calls {
    /** No call answers this. */
    static final long THREW = Long.MIN_VALUE + 1;

    private static final Map<String, Long> NAMES = new HashMap<>();

    static {
        String[] refusals = {"BAD", "NOT", "FULL", "NONE", "NULL", "CAST", "INDEX", "SIZE"};
        long[] numbers = {-1, -2, -3, -4, -11, -12, -13, -14};
        for (int i = 0; i < refusals.length; i++) NAMES.put(refusals[i], numbers[i]);
        NAMES.put("MIN", (long) Integer.MIN_VALUE);
        NAMES.put("MAX", (long) Integer.MAX_VALUE);
        NAMES.put("LONGMIN", Long.MIN_VALUE);
        NAMES.put("LONGMAX", Long.MAX_VALUE);
        NAMES.put("false", 0L);
        NAMES.put("true", 1L);
    }

    private final Object target;
    private final Map<String, Method> methods = new HashMap<>();

    Calls(Object target) {
        this.target = target;
        for (Method method : target.getClass().getDeclaredMethods()) {
            if (Modifier.isPublic(method.getModifiers())) {
                method.setAccessible(true);
                methods.put(method.getName(), method);
            }
        }
    }

    long make(String name, long... args) {
        Method method = methods.get(name);
        Object[] boxed = new Object[args.length];
        for (int i = 0; i < args.length; i++) {
            Class<?> type = method.getParameterTypes()[i];
            boxed[i] = type == boolean.class ? (Object) (args[i] != 0) : type == int.class ? (Object) (int) args[i] : args[i];
        }
        try {
            return ((Number) method.invoke(target, boxed)).longValue();
        } catch (InvocationTargetException e) {
            System.out.println(name + " threw " + e.getCause());
            return THREW;
        } catch (IllegalAccessException e) {
            throw new IllegalStateException(e);
        }
    }

    /**
     * A call as a text: its name and its numbers. Besides, a text in ' ' is typed: by type '..' alone, by
     * people '..' and plan '..' ahead of the call; holds is whether an item of a sheet is a number.
     */
    long read(String call) {
        int quote = call.indexOf('\'');
        if (quote >= 0) {
            long typed = typeText(call.substring(quote + 1, call.lastIndexOf('\'')));
            return call.startsWith("type") ? typed : make(call.substring(0, quote).trim());
        }
        String[] words = call.trim().split(" +");
        long[] args = new long[words.length - 1];
        for (int i = 0; i < args.length; i++) args[i] = number(words[i + 1]);
        return words[0].equals("holds") ? holds(args[0], args[1], args[2], args[3]) : make(words[0], args);
    }

    static long number(String word) {
        if (NAMES.containsKey(word)) return NAMES.get(word);
        return word.startsWith("0x") ? Long.parseUnsignedLong(word.substring(2), 16) : Long.parseLong(word);
    }

    /** Types a text by as many calls as it takes; the last one's answer. */
    long typeText(String text) {
        long answer = 0;
        for (int at = 0; at < text.length(); at += 8) {
            String part = text.substring(at, Math.min(text.length(), at + 8));
            answer = make("type", Check.packed(part), part.length());
        }
        return answer;
    }

    /**
     * Whether an item is a number of 0 .. 99999 (1, 0), told by WHO ASKED: halves are alike only of like
     * sums. Others stand in the people's place then, the tape is empty, and sheet 3 is used.
     */
    private long holds(long sheet, long lane, long i, long v) {
        typeText("f0,f0");
        make("people");
        long[] had = v > 0 ? new long[] {0, v, v - v / 2, v / 2} : new long[] {v, 4, v + 2, 2};
        make("sheet", 3, lane, 4);
        for (int place = 0; place < 4; place++) make("item", 3, lane, place, had[place]);
        long copied = make("copy", sheet, i, 3, v > 0 ? 1 : 0, 1);
        return copied == 1 && make("who", 3, lane, 0, 1, 0) == 1 ? 1 : 0;
    }
}
