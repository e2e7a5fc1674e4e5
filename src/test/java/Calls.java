import java.lang.reflect.InvocationTargetException;
import java.lang.reflect.Method;
import java.lang.reflect.Modifier;
import java.util.HashMap;
import java.util.Map;

/** Makes calls that are told as text, such as "put(0, 2, MAX)", so that tests can hold them in tables. */
final class Calls {
    private static final Map<String, Method> METHODS = new HashMap<>();

    static {
        for (Method m : EveryoneWins.class.getDeclaredMethods()) {
            if (Modifier.isPublic(m.getModifiers())) {
                METHODS.put(m.getName(), m);
            }
        }
    }

    private Calls() {
    }

    static long answer(EveryoneWins x, String call) {
        int bracket = call.indexOf('(');
        String told = call.substring(bracket + 1, call.length() - 1).trim();
        String[] numbers = told.isEmpty() ? new String[0] : told.split(",");
        Object[] arguments = new Object[numbers.length];
        for (int i = 0; i < numbers.length; i++) {
            arguments[i] = number(numbers[i].trim());
        }
        try {
            return ((Number) METHODS.get(call.substring(0, bracket)).invoke(x, arguments)).longValue();
        } catch (IllegalAccessException | InvocationTargetException e) {
            throw new IllegalStateException(call, e);
        }
    }

    private static int number(String told) {
        return told.equals("MAX") ? Integer.MAX_VALUE : told.equals("MIN") ? Integer.MIN_VALUE : Integer.parseInt(told);
    }
}
