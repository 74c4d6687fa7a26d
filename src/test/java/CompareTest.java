import java.lang.reflect.Method;
import java.util.Arrays;

/** Long runs of calls, chosen by a fixed row of numbers, on the program and on the Model: all answers agree. */
public final class CompareTest {
    private static final int RUNS = 200;
    private static final int CALLS = 512;
    private static final String[] CALL_NAMES = {
        "refusal", "report", "bay", "post", "load", "steps", "fewestTies", "tieLevels", "missing", "dismantling", "work", "account", "use", "meanClass", "undo", "save", "restore", "stock",
        "set", "start", "feed", "perform", "erect", "lower", "deck", "put", "take"};
    private static final int[] WIDE = {
        Integer.MIN_VALUE, -33, -1, 11, 12, 13, 32, 33, 34, 64, 999, 1000, Integer.MAX_VALUE};
    private long seed;
    private int reasonsSeen = 0;

    private int pick(int bound) {
        seed = seed * 6364136223846793005L + 1442695040888963407L;
        return (int) ((seed >>> 33) % bound);
    }

    public static void main(String[] args) {
        CompareTest test = new CompareTest();
        int reasons = 0;
        for (int run = 0; run < RUNS; run++) {
            test.seed = run * 7919L + 17;
            test.run(run);
            reasons |= test.reasonsSeen;
        }
        Script.due("the reasons seen, as a set", reasons & 0x1fe, 0x1fe);
        Script.finish();
    }

    private void run(int run) {
        ScaffoldPlanner planner = new ScaffoldPlanner();
        Model model = new Model();
        int readiness = 20 + pick(75);
        for (int i = 0; i < CALLS; i++) {
            if (i == 0 && run % 3 == 1) both(planner, model, "start", run, 4 + pick(7));
            else if (i < 6 && run % 4 == 2) both(planner, model, "stock", run, pick(6), 100 + pick(900));
            else if (i == 6 && run % 5 == 2) both(planner, model, "set", run, 2, 2000);
            else if (pick(100) < readiness) work(planner, model, run);
            else if (pick(12) == 0) text(planner, model, run);
            else any(planner, model, run);
        }
    }

    /** A call of work, most often one that is not refused, so that scaffolds grow. */
    private void work(ScaffoldPlanner planner, Model model, int run) {
        for (int tries = 0; tries < 12; tries++) {
            int what = new int[] {0, 0, 2, 2, 2, 3, 3, 4, 4, 5, 5}[pick(11)];
            int place = pick(model.site.n);
            int level = 1 + pick(6);
            int cls = 1 + pick(4);
            boolean taken = pick(8) == 0;
            if (tries < 11 && model.site.refusal(what, place, level, cls, taken) != null) continue;
            if (what == 0) both(planner, model, taken ? "lower" : "erect", run, place);
            else if (taken) both(planner, model, "take", run, what, place, level);
            else if (what == 2) both(planner, model, "deck", run, place, level, cls);
            else both(planner, model, "put", run, what, place, level);
            return;
        }
    }

    /** A text that is most often correct, typed and performed. */
    private void text(ScaffoldPlanner planner, Model model, int run) {
        StringBuilder text = new StringBuilder();
        int commands = 1 + pick(4);
        for (int i = 0; i < commands; i++) {
            if (i > 0) text.append(';');
            if (pick(6) == 0) text.append('-');
            char letter = "ebtld".charAt(pick(5));
            text.append(letter).append(pick(model.site.n + (pick(9) == 0 ? 1 : 0)) % 10);
            if (letter != 'e') text.append('.').append(pick(8) == 0 ? pick(10) : 1 + pick(3));
            if (letter == 'd' && pick(2) == 0) text.append('*').append(pick(6) == 0 ? pick(10) : 1 + pick(4));
        }
        if (pick(4) == 0) text.insert(pick(text.length() + 1), "-e0.1*;x".charAt(pick(8)));
        if (pick(6) == 0) text.setLength(pick(text.length() + 1));
        for (char letter : text.toString().toCharArray()) both(planner, model, "feed", run, letter);
        both(planner, model, "perform", run);
    }

    private void any(ScaffoldPlanner planner, Model model, int run) {
        String name = CALL_NAMES[pick(CALL_NAMES.length)];
        if (name.equals("start") && pick(10) != 0) name = "bay";
        if (name.equals("restore") && pick(5) != 0) name = "post";
        Class<?>[] types = Script.methodOf(name).getParameterTypes();
        Object[] values = new Object[types.length];
        for (int i = 0; i < types.length; i++) {
            if (types[i] == boolean.class) values[i] = pick(2) == 0;
            else if (types[i] == char.class) values[i] = (char) pick(256);
            else if (pick(12) == 0) values[i] = WIDE[pick(WIDE.length)];
            else if (name.equals("stock") && i == 1) values[i] = pick(3) == 0 ? pick(5) : pick(200);
            else if (name.equals("set") && i == 1) values[i] = pick(2) == 0 ? pick(6) : 100 * pick(22);
            else if (name.equals("work") && i == 0 || name.equals("account")) values[i] = pick(20);
            else values[i] = pick(8);
        }
        if (name.equals("refusal")) reasonsSeen |= 1 << Math.max(0, reason(model, values));
        both(planner, model, name, run, values);
    }

    private static int reason(Model model, Object[] values) {
        String answer = model.answer("refusal", values);
        return answer.startsWith("!") || answer.equals("0") ? 31 : Integer.parseInt(answer);
    }

    private void both(ScaffoldPlanner planner, Model model, String name, int run, Object... values) {
        Method method = Script.methodOf(name);
        String want = model.answer(name, values);
        String got = Script.answer(planner, method, values);
        if (!want.equals(got)) {
            Script.due("run " + run + ": " + name + Arrays.toString(values), got, want);
        }
        if (pick(16) != 0) return;
        for (int what = 0; what < 18; what++) {
            Object[] part = {what};
            Script.due("run " + run + ": account(" + what + ") behind " + name,
                Script.answer(planner, Script.methodOf("account"), part), model.answer("account", part));
        }
    }
}
