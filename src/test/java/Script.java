import java.lang.reflect.InvocationTargetException;
import java.lang.reflect.Method;

/**
 * Runs of calls told as lines, each with the answer that is due: "erect(0) = 1", "erect(9) ! IndexOutOfBounds" (the
 * exception's own class, without its last word), "type e0;e1" (feeds each character), and a call alone, whose answer is
 * not looked at but which must not throw. What follows "//" is a remark.
 */
final class Script {
    private static int wrong = 0;

    private Script() {
    }

    /** Runs the lines of a text on a new object. */
    static void run(String name, String lines) {
        runOn(new ScaffoldPlanner(), name, lines);
    }

    static void runOn(ScaffoldPlanner planner, String name, String lines) {
        for (String line : lines.split("\n")) {
            int remark = line.indexOf("//");
            String call = (remark < 0 ? line : line.substring(0, remark)).trim();
            if (call.startsWith("type ")) {
                type(planner, call.substring(5));
            } else if (!call.isEmpty()) {
                step(planner, name, call);
            }
        }
    }

    static void finish() {
        System.out.println(wrong == 0 ? "all answers are as due" : wrong + " answers are not as due");
        if (wrong != 0) System.exit(1);
    }

    static void due(String what, Object got, Object want) {
        if (want.equals(got)) return;
        wrong++;
        System.out.println(what + " answered " + got + ", due is " + want);
    }

    static void type(ScaffoldPlanner planner, String text) {
        for (char letter : text.toCharArray()) planner.feed(letter);
    }

    private static void step(ScaffoldPlanner planner, String name, String line) {
        int sign = line.indexOf(") = ");
        int bang = line.indexOf(") ! ");
        int end = Math.max(sign, bang);
        String call = end < 0 ? line : line.substring(0, end + 1);
        String got = answer(planner, call);
        if (end >= 0) {
            String want = (bang >= 0 ? "! " : "") + line.substring(end + 4).trim();
            due(name + ": " + call, got, want);
        } else if (got.startsWith("!")) {
            due(name + ": " + call, got, "no exception");
        }
    }

    /** The answer of a call as a text, or "! " and the exception's own class. */
    static String answer(ScaffoldPlanner planner, String call) {
        int open = call.indexOf('(');
        String inner = call.substring(open + 1, call.length() - 1).trim();
        String[] texts = inner.isEmpty() ? new String[0] : inner.split(",");
        Method method = methodOf(call.substring(0, open));
        Class<?>[] types = method.getParameterTypes();
        Object[] values = new Object[types.length];
        for (int i = 0; i < types.length; i++) values[i] = valueOf(texts[i].trim(), types[i]);
        return answer(planner, method, values);
    }

    static String answer(ScaffoldPlanner planner, Method method, Object[] values) {
        try {
            return String.valueOf(method.invoke(planner, values));
        } catch (InvocationTargetException e) {
            String thrown = e.getCause().getClass().getSimpleName();
            return "! " + thrown.replaceAll("Exception$", "");
        } catch (IllegalAccessException e) {
            throw new IllegalStateException(e);
        }
    }

    static Method methodOf(String name) {
        for (Method method : ScaffoldPlanner.class.getMethods()) {
            if (method.getName().equals(name)) return method;
        }
        throw new IllegalArgumentException(name);
    }

    private static Object valueOf(String text, Class<?> type) {
        if (type == boolean.class) return Boolean.valueOf(text);
        if (type == char.class) return text.charAt(0);
        if (text.equals("MIN")) return Integer.MIN_VALUE;
        if (text.equals("MAX")) return Integer.MAX_VALUE;
        return Integer.valueOf(text);
    }
}
