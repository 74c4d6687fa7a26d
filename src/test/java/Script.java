import java.lang.reflect.InvocationTargetException;
import java.lang.reflect.Method;
import java.util.ArrayList;
import java.util.List;

/**
 * Runs of calls told as lines. What follows "//" is a remark. A line is one of these:
 *
 * <pre>
 * erect(0) = 1               the call answers this
 * erect(9) ! IndexOutOfBounds   it throws this, told without its last word, Exception
 * erect(0) refused 4/2       it is refused and leaves a report of two levels, with this reason and detail
 * erect(0)                   it does not throw
 * type e0;e1                 each character is fed
 * do e0;e1 = 2               each character is fed, and perform answers this
 * do e0;e0 refused 1: 4/2    the same, but refused at this command, with a report of three levels
 * do e0;e9 !                 the same, but refused with or without a report
 * works 5.0.1 0.0.1          the works of the dismantling, all that there are: what, place and level of each
 * tower                      bay 0 becomes six levels high in 27 works and 3 changes, its posts with ties at 2 and 4
 * same erect(9)              the state behind the call would be as it is here; the run goes on without the call
 * same do e0;e               the same for a text that is fed and performed
 * new                        the lines that follow are of a new object
 * </pre>
 *
 * A character is told by itself or by # and its number, MIN and MAX are the least and the greatest int.
 */
final class Script {
    private static final String[] TOWER = {
        "do e0;d0.1;l0.1;b0.1;e0;d0.2;l0.2;b0.2;t0.2;t1.2 = 10",
        "do e0;d0.3;l0.3;b0.3;e0;d0.4;l0.4;b0.4;t0.4;t1.4 = 10",
        "do e0;d0.5;l0.5;b0.5;e0;d0.6;l0.6 = 7"};
    private static int wrong = 0;

    private final String name;
    private final ScaffoldPlanner planner;
    /** The lines since the object was made, so that they can be run once more on another one. */
    private final List<String> earlier = new ArrayList<>();

    private Script(String name, ScaffoldPlanner planner) {
        this.name = name;
        this.planner = planner;
    }

    /** Runs the lines of a text on a new object. */
    static void run(String name, String lines) {
        runOn(new ScaffoldPlanner(), name, lines);
    }

    static void runOn(ScaffoldPlanner planner, String name, String lines) {
        Script script = new Script(name, planner);
        for (String line : lines.split("\n")) {
            int remark = line.indexOf("//");
            String step = (remark < 0 ? line : line.substring(0, remark)).trim();
            if (step.equals("new")) script = new Script(name, new ScaffoldPlanner());
            else if (step.startsWith("same ")) script.checkUnchanged(step.substring(5));
            else if (!step.isEmpty()) script.step(step);
        }
    }

    static void finish() {
        System.out.println(wrong == 0 ? "all answers are as due" : wrong + " answers are not as due");
        if (wrong != 0) System.exit(1);
    }

    static void due(String what, Object got, Object want) {
        if (want.equals(got)) return;
        wrong++;
        System.out.println(what + " answered " + got + ", due is " + want);
    }

    private static void type(ScaffoldPlanner planner, String text) {
        for (char letter : text.toCharArray()) planner.feed(letter);
    }

    private void step(String line) {
        if (line.equals("tower")) {
            for (String part : TOWER) step(part);
            return;
        }
        earlier.add(line);
        if (line.startsWith("type ")) type(planner, line.substring(5));
        else if (line.startsWith("works ")) worksStep(line.substring(6).trim().split(" +"));
        else if (line.startsWith("do ")) performStep(line.substring(3));
        else callStep(line);
    }

    private void performStep(String line) {
        int refused = line.indexOf(" refused ");
        int sign = line.indexOf(" = ");
        int end = refused >= 0 ? refused : sign >= 0 ? sign : line.indexOf(" !");
        type(planner, line.substring(0, end));
        dueAnswer("perform()", sign >= 0 ? line.substring(sign + 3).trim() : "! UnsupportedOperation");
        if (refused < 0) return;
        String[] due = line.substring(refused + 9).split("[:/]");
        dueReport(0, "9", due[0].trim());
        dueReport(2, due[1].trim(), due[2].trim());
        dueAnswer("report(3, false)", "! NoSuchElement");
    }

    private void worksStep(String[] works) {
        for (int i = 0; i < works.length; i++) {
            String[] parts = works[i].split("[.]");
            for (int part = 0; part < 3; part++) dueAnswer("work(" + i + ", " + part + ")", parts[part]);
        }
        dueAnswer("work(" + works.length + ", 0)", "! IndexOutOfBounds");
    }

    private void callStep(String line) {
        int end = line.indexOf(") ") + 1;
        String call = end == 0 ? line : line.substring(0, end);
        String rest = line.substring(call.length()).trim();
        if (rest.startsWith("= ")) {
            dueAnswer(call, rest.substring(2).trim());
        } else if (rest.startsWith("! ")) {
            dueAnswer(call, "! " + rest.substring(2).trim());
        } else if (rest.startsWith("refused ")) {
            String[] due = rest.substring(8).split("/");
            dueAnswer(call, "! UnsupportedOperation");
            dueReport(1, due[0].trim(), due[1].trim());
            dueAnswer("report(2, false)", "! NoSuchElement");
        } else if (rest.isEmpty()) {
            String got = answer(planner, call);
            if (got.startsWith("!")) due(name + ": " + call, got, "no exception");
        } else {
            due(name + ": " + line, "a line that cannot be read", "a line");
        }
    }

    private void dueReport(int level, String head, String detail) {
        dueAnswer("report(" + level + ", false)", head);
        dueAnswer("report(" + level + ", true)", detail);
    }

    private void dueAnswer(String call, String want) {
        due(name + ": " + call, answer(planner, call), want);
    }

    /** Two new objects come to where this run is, one of them makes the call: both must answer alike from then on. */
    private void checkUnchanged(String call) {
        Script without = new Script(name, new ScaffoldPlanner());
        Script with = new Script(name, new ScaffoldPlanner());
        for (String line : earlier) {
            without.step(line);
            with.step(line);
        }
        if (call.startsWith("do ")) type(with.planner, call.substring(3));
        String got = answer(with.planner, call.startsWith("do ") ? "perform()" : call);
        boolean isRefused = got.equals("! UnsupportedOperation");
        int bays = Integer.parseInt(answer(without.planner, "account(12)"));
        List<String> want = state(without.planner, bays, isRefused);
        List<String> seen = state(with.planner, bays, isRefused);
        int i = 0;
        while (i < want.size() - 1 && seen.get(i).equals(want.get(i))) i++;
        due(name + ": the state behind " + call, seen.get(i), want.get(i));
    }

    /** All that can be seen of an object of so many bays, told by up to 400 calls; a refusal's report is its own. */
    private static List<String> state(ScaffoldPlanner planner, int bays, boolean isWithoutReport) {
        List<String> seen = new ArrayList<>();
        for (int what = 0; what < 18; what++) see(seen, planner, "account(" + what + ")");
        for (int place = 0; place < bays; place++) {
            for (int what = 0; what < 6; what++) see(seen, planner, "bay(" + place + ", " + what + ")");
            for (int what = 0; what < 5; what++) see(seen, planner, "post(" + place + ", " + what + ")");
            for (int level = 1; level <= 6; level++) see(seen, planner, "load(" + place + ", " + level + ")");
            see(seen, planner, "steps(" + place + ", 1)");
        }
        for (int part = 0; part < 6 && !isWithoutReport; part++) {
            see(seen, planner, "report(" + part / 2 + ", " + (part % 2 == 1) + ")");
        }
        see(seen, planner, "dismantling()");
        for (int part = 0; part < 3; part++) see(seen, planner, "work(0, " + part + ")");
        see(seen, planner, "feed(;)");
        see(seen, planner, "perform()");
        for (int i = 0; i < 9; i++) {
            see(seen, planner, "undo()");
            for (int what = 0; what < 18; what++) see(seen, planner, "account(" + what + ")");
        }
        see(seen, planner, "restore()");
        for (int what = 0; what < 18; what++) see(seen, planner, "account(" + what + ")");
        return seen;
    }

    private static void see(List<String> seen, ScaffoldPlanner planner, String call) {
        seen.add(call + " = " + answer(planner, call));
    }

    /** The answer of a call as a text, or "! " and the exception's own class. */
    static String answer(ScaffoldPlanner planner, String call) {
        int open = call.indexOf('(');
        String inner = call.substring(open + 1, call.length() - 1).trim();
        String[] texts = inner.isEmpty() ? new String[0] : inner.split(",");
        Method method = methodOf(call.substring(0, open));
        Class<?>[] types = method.getParameterTypes();
        Object[] values = new Object[types.length];
        for (int i = 0; i < types.length; i++) values[i] = valueOf(texts[i].trim(), types[i]);
        return answer(planner, method, values);
    }

    static String answer(ScaffoldPlanner planner, Method method, Object[] values) {
        try {
            return String.valueOf(method.invoke(planner, values));
        } catch (InvocationTargetException e) {
            String thrown = e.getCause().getClass().getSimpleName();
            return "! " + thrown.replaceAll("Exception$", "");
        } catch (IllegalAccessException e) {
            throw new IllegalStateException(e);
        }
    }

    static Method methodOf(String name) {
        for (Method method : ScaffoldPlanner.class.getMethods()) {
            if (method.getName().equals(name)) return method;
        }
        throw new IllegalArgumentException(name);
    }

    private static Object valueOf(String text, Class<?> type) {
        if (type == boolean.class) return Boolean.valueOf(text);
        if (type == char.class && text.length() == 1) return text.charAt(0);
        if (type == char.class) return (char) Integer.parseInt(text.substring(1));
        if (text.equals("MIN")) return Integer.MIN_VALUE;
        if (text.equals("MAX")) return Integer.MAX_VALUE;
        return Integer.valueOf(text);
    }
}
