import java.lang.reflect.Method;
import java.util.Arrays;

/** Long runs of calls, chosen by a fixed row of numbers, on the program and on the Model: all answers agree. */
public final class CompareTest {
    private static final int RUNS = 600;
    /** What an object answers after so many calls is free. */
    private static final int CALLS = 512;
    private static final int ACCOUNTS = 18;
    private static final String[] CALL_NAMES = {
        "refusal", "report", "bay", "post", "load", "steps", "fewestTies", "tieLevels", "missing", "dismantling", "work", "account", "use", "meanClass", "undo", "save", "restore", "stock",
        "set", "start", "feed", "perform", "erect", "lower", "deck", "put", "take"};
    private static final int[] WIDE = {
        Integer.MIN_VALUE, -33, -1, 11, 12, 13, 32, 33, 34, 64, 999, 1000, Integer.MAX_VALUE};
    private long seed;
    private int reasonsSeen = 0;
    private int calls;

    private int pick(int bound) {
        seed = seed * 6364136223846793005L + 1442695040888963407L;
        return (int) ((seed >>> 33) % bound);
    }

    public static void main(String[] args) {
        CompareTest test = new CompareTest();
        int reasons = 0;
        for (int run = 0; run < RUNS; run++) {
            test.seed = run * 7919L + 17;
            test.run(run);
            reasons |= test.reasonsSeen;
        }
        Script.due("the reasons seen, as a set", reasons & 0x1fe, 0x1fe);
        Script.finish();
    }

    private void run(int run) {
        ScaffoldPlanner planner = new ScaffoldPlanner();
        Model model = new Model();
        int readiness = 20 + pick(75);
        calls = 0;
        for (int i = 0; calls < CALLS; i++) {
            if (i == 0 && run % 3 == 1) both(planner, model, "start", run, 4 + pick(7));
            else if (i < 6 && run % 4 == 2) both(planner, model, "stock", run, pick(6), 100 + pick(900));
            else if (i == 6 && run % 5 == 2) both(planner, model, "set", run, 2, 2000);
            else if (pick(100) < readiness) work(planner, model, run);
            else if (pick(12) == 0) text(planner, model, run);
            else any(planner, model, run);
        }
    }

    /** What, place, level, class, and 1 if it is taken; most often at the top of what is there. */
    private int[] somewhere(Model.Site site) {
        int what = new int[] {0, 0, 2, 2, 2, 3, 3, 4, 4, 5, 5}[pick(11)];
        int place = pick(site.n);
        int top = what == 4 ? site.tall(place) : site.height[place];
        int level = pick(3) == 0 ? 1 + pick(6) : Math.max(1, top - pick(2));
        return new int[] {what, place, level, 1 + pick(4), pick(8) == 0 ? 1 : 0};
    }

    private static int[] refusal(Model.Site site, int[] work) {
        return site.refusal(work[0], work[1], work[2], work[3], work[4] == 1);
    }

    /** A call of work, most often one that is not refused, so that scaffolds grow. */
    private void work(ScaffoldPlanner planner, Model model, int run) {
        int[] work = somewhere(model.site);
        int[] refused = refusal(model.site, work);
        // the later reasons are rarer
        for (int tries = 0; tries < 11 && refused != null && pick(8) > refused[0] - 5; tries++) {
            work = somewhere(model.site);
            refused = refusal(model.site, work);
        }
        if (work[0] == 0) both(planner, model, work[4] == 1 ? "lower" : "erect", run, work[1]);
        else if (work[4] == 1) both(planner, model, "take", run, work[0], work[1], work[2]);
        else if (work[0] == 2) both(planner, model, "deck", run, work[1], work[2], work[3]);
        else both(planner, model, "put", run, work[0], work[1], work[2]);
        if (refused == null) return;
        reasonsSeen |= 1 << refused[0];
        report(planner, model, run);
    }

    private void report(ScaffoldPlanner planner, Model model, int run) {
        for (int part = 0; part < 6; part++) both(planner, model, "report", run, part / 2, part % 2 == 1);
    }

    /** A text that is most often correct and carried out, typed and performed. */
    private void text(ScaffoldPlanner planner, Model model, int run) {
        if (model.buffer.length() > 0 && pick(8) != 0) both(planner, model, "perform", run);
        Model.Site site = model.site.copy();
        StringBuilder text = new StringBuilder();
        int commands = 1 + pick(5);
        for (int i = 0; i < commands; i++) {
            int[] work = somewhere(site);
            for (int tries = 0; tries < 20 && refusal(site, work) != null; tries++) work = somewhere(site);
            if (refusal(site, work) == null) {
                int level = site.levelOf(work[0], work[1], work[2], work[4] == 1);
                site.change(work[0], work[1], level, work[3], work[4] == 1);
            }
            if (i > 0) text.append(';');
            text.append(command(work));
        }
        if (pick(8) == 0) text.setCharAt(pick(text.length()), "-e0.1*;x9".charAt(pick(9)));
        if (pick(8) == 0) text.insert(pick(text.length() + 1), "-e0.1*;x".charAt(pick(8)));
        if (pick(8) == 0) text.setLength(pick(text.length() + 1));
        for (char letter : text.toString().toCharArray()) both(planner, model, "feed", run, letter);
        both(planner, model, "perform", run);
        if (pick(4) == 0) report(planner, model, run);
    }

    private String command(int[] work) {
        String sign = work[4] == 1 ? "-" : "";
        if (work[0] == 0) return sign + "e" + work[1];
        String piece = sign + "dbtl".charAt(work[0] - 2) + work[1] + "." + work[2];
        boolean isWithClass = work[0] == 2 && (work[4] == 0 || pick(4) == 0);
        return isWithClass ? piece + "*" + (pick(12) == 0 ? pick(10) : work[3]) : piece;
    }

    private void any(ScaffoldPlanner planner, Model model, int run) {
        String name = CALL_NAMES[pick(CALL_NAMES.length)];
        if (name.equals("start") && pick(10) != 0) name = "bay";
        if (name.equals("restore") && pick(5) != 0) name = "post";
        if (name.equals("feed") && pick(5) != 0) name = "steps";
        Class<?>[] types = Script.methodOf(name).getParameterTypes();
        Object[] values = new Object[types.length];
        for (int i = 0; i < types.length; i++) {
            if (types[i] == boolean.class) values[i] = pick(2) == 0;
            else if (types[i] == char.class) values[i] = (char) pick(256);
            else if (pick(16) == 0) values[i] = WIDE[pick(WIDE.length)];
            else values[i] = usual(name, i, model.site);
        }
        both(planner, model, name, run, values);
    }

    /** A number for a parameter, most often in its range. */
    private int usual(String name, int parameter, Model.Site site) {
        switch (name + parameter) {
            case "bay0": case "post0": case "load0": case "steps0": case "use0": case "erect0": case "lower0":
            case "deck0": case "put1": case "take1": case "refusal1": return pick(site.n);
            case "start0": return 4 + pick(7);
            case "set0": case "report0": case "work1": return pick(3);
            case "set1": return pick(2) == 0 ? pick(5) : 100 * (1 + pick(20));
            case "stock1": return pick(3) == 0 ? pick(5) : pick(200);
            case "fewestTies0": case "tieLevels0": return pick(13);
            case "missing0": return pick(2);
            case "work0": case "account0": return pick(18);
            default: return pick(7);
        }
    }

    private void both(ScaffoldPlanner planner, Model model, String name, int run, Object... values) {
        if (calls == CALLS) return;
        calls++;
        Method method = Script.methodOf(name);
        String want = model.answer(name, values);
        String got = Script.answer(planner, method, values);
        if (!want.equals(got)) {
            Script.due("run " + run + ": " + name + Arrays.toString(values), got, want);
        }
        if (pick(48) != 0 || calls + ACCOUNTS > CALLS) return;
        calls += ACCOUNTS;
        for (int what = 0; what < ACCOUNTS; what++) {
            Object[] part = {what};
            Script.due("run " + run + ": account(" + what + ") behind " + name,
                Script.answer(planner, Script.methodOf("account"), part), model.answer("account", part));
        }
    }
}
