import java.util.ArrayDeque;
import java.util.ArrayList;
import java.util.Arrays;
import java.util.Deque;
import java.util.HashMap;
import java.util.List;
import java.util.Map;
import java.util.TreeMap;
import java.util.TreeSet;
import java.util.regex.Matcher;
import java.util.regex.Pattern;

/** The document once more, written without regard to speed and in other ways than the program, to compare answers. */
final class Model {
    /** A failed call's answer. */
    static final class Fault extends RuntimeException {
        private static final long serialVersionUID = 1L;

        Fault(String name) {
            super("! " + name);
        }
    }

    /** A scaffold: pieces are texts such as "d3.2" in sorted sets. */
    static final class Site {
        int n = 4;
        int works = 0;
        int[] height = new int[10];
        int[] rule = {3, 2, 600};
        int[] yard = {60, 60, 60, 60, 60, 60};
        TreeMap<String, Integer> decks = new TreeMap<>();
        TreeSet<String> others = new TreeSet<>();

        Site copy() {
            Site c = new Site();
            c.n = n;
            c.works = works;
            c.height = height.clone();
            c.rule = rule.clone();
            c.yard = yard.clone();
            c.decks = new TreeMap<>(decks);
            c.others = new TreeSet<>(others);
            return c;
        }

        boolean has(int kind, int place, int level) {
            String where = place + "." + level;
            return kind == 2 ? decks.containsKey(where) : others.contains(kind + "@" + where);
        }

        int tall(int post) {
            return Math.max(height[post], height[(post + n - 1) % n]);
        }

        int load(int post) {
            int sum = 20 * tall(post);
            for (int level = 1; level <= 6; level++) {
                for (int b : new int[] {post, (post + n - 1) % n}) {
                    sum += 50 * decks.getOrDefault(b + "." + level, 0);
                }
            }
            return sum;
        }

        List<Integer> ties(int post) {
            List<Integer> list = new ArrayList<>();
            for (int level = 1; level <= 6; level++) if (has(4, post, level)) list.add(level);
            return list;
        }

        boolean held(List<Integer> ties, int tall) {
            List<Integer> all = new ArrayList<>(ties);
            all.add(0);
            all.sort(null);
            for (int i = 1; i < all.size(); i++) if (all.get(i) - all.get(i - 1) > rule[0]) return false;
            return tall - all.get(all.size() - 1) <= rule[1];
        }

        boolean braced(int bay, int level) {
            return has(3, bay, level) || has(3, (bay + 1) % n, level) || has(3, (bay + n - 1) % n, level);
        }

        int unheld() {
            for (int p = 0; p < n; p++) if (!held(ties(p), tall(p))) return p;
            return -1;
        }

        int unbraced() {
            for (int b = 0; b < n; b++) for (int l = 1; l < height[b]; l++) if (!braced(b, l)) return b;
            return -1;
        }

        int overloaded() {
            for (int p = 0; p < n; p++) if (load(p) > rule[2]) return p;
            return -1;
        }

        /** The steps to each deck that is reached. */
        Map<String, Integer> steps() {
            Map<String, Integer> steps = new HashMap<>();
            Deque<int[]> queue = new ArrayDeque<>();
            for (int b = 0; b < n; b++) if (has(5, b, 1)) come(steps, queue, b, 1, 1);
            while (!queue.isEmpty()) {
                int[] at = queue.poll();
                int s = steps.get(at[0] + "." + at[1]) + 1;
                if (has(5, at[0], at[1] + 1)) come(steps, queue, at[0], at[1] + 1, s);
                if (has(5, at[0], at[1]) && at[1] > 1) come(steps, queue, at[0], at[1] - 1, s);
                come(steps, queue, (at[0] + 1) % n, at[1], s);
                come(steps, queue, (at[0] + n - 1) % n, at[1], s);
            }
            return steps;
        }

        private void come(Map<String, Integer> steps, Deque<int[]> queue, int b, int l, int s) {
            if (!has(2, b, l) || steps.containsKey(b + "." + l)) return;
            steps.put(b + "." + l, s);
            queue.add(new int[] {b, l});
        }

        int placed(int kind) {
            int count = 0;
            for (int p = 0; p < n; p++) {
                if (kind == 0) count += tall(p);
                if (kind == 1) count += 2 * height[p];
                for (int l = 1; l <= 6 && kind > 1; l++) if (has(kind, p, l)) count++;
            }
            return count;
        }

        void change(int what, int place, int level, int cls, boolean taken) {
            int[] before = new int[6];
            for (int k = 0; k < 6; k++) before[k] = placed(k);
            if (what == 0) height[place] += taken ? -1 : 1;
            else if (what == 2 && taken) decks.remove(place + "." + level);
            else if (what == 2) decks.put(place + "." + level, cls);
            else if (taken) others.remove(what + "@" + place + "." + level);
            else others.add(what + "@" + place + "." + level);
            for (int k = 0; k < 6; k++) yard[k] -= placed(k) - before[k];
            works++;
        }

        int levelOf(int what, int place, int level, boolean taken) {
            return what != 0 ? level : taken ? height[place] : height[place] + 1;
        }

        /** The reason and the detail, or null. */
        int[] refusal(int what, int place, int given, int cls, boolean taken) {
            int level = levelOf(what, place, given, taken);
            int tall = what == 4 ? tall(place) : height[place];
            if (what == 0 && !taken ? tall == 6 : level < 1 || level > tall) return new int[] {1, tall};
            if (what != 0 && has(what, place, level) != taken) return new int[] {2, level};
            if (what == 5 && !taken) {
                for (int l = Math.max(1, level - 1); l <= level; l++) if (!has(2, place, l)) return new int[] {3, l};
            }
            if (what == 2 && taken) {
                for (int l = level; l <= level + 1; l++) if (has(5, place, l)) return new int[] {3, l};
            }
            if (what == 0 && taken) {
                Site after = copy();
                after.height[place]--;
                for (int k = 2; k <= 5; k++) {
                    if (k != 4 && has(k, place, level)) return new int[] {3, k};
                    for (int p = 0; p < n && k == 4; p++) {
                        for (int l : ties(p)) if (l > after.tall(p)) return new int[] {3, 4};
                    }
                }
            }
            if (level > 1) {
                Map<String, Integer> steps = steps();
                boolean stands = steps.containsKey(place + "." + (level - 1));
                if (what == 4) stands |= steps.containsKey((place + n - 1) % n + "." + (level - 1));
                if (!stands) return new int[] {4, level};
            }
            Site after = copy();
            after.change(what, place, level, cls, taken);
            for (int k = 0; k < 6 && !taken; k++) if (after.yard[k] < 0) return new int[] {5, k};
            if (after.unheld() >= 0) return new int[] {6, after.unheld()};
            if (after.unbraced() >= 0) return new int[] {7, after.unbraced()};
            if (after.overloaded() >= 0) return new int[] {8, after.overloaded()};
            return null;
        }

        /** The works of the dismantling, each what, place and level; null behind them if it can't come to its end. */
        List<int[]> dismantled() {
            Site site = copy();
            List<int[]> works = new ArrayList<>();
            while (site.placed(1) > 0) {
                int[] work = site.firstTaking();
                works.add(work);
                if (work == null) break;
                site.change(work[0], work[1], work[2], 0, true);
            }
            return works;
        }

        private int[] firstTaking() {
            List<int[]> all = new ArrayList<>();
            for (int p = 0; p < n; p++) {
                if (height[p] > 0) all.add(new int[] {0, p, height[p]});
                for (int k = 2; k < 6; k++) for (int l = 1; l < 7; l++) if (has(k, p, l)) all.add(new int[] {k, p, l});
            }
            String order = "54320";
            all.sort((a, b) -> a[2] != b[2] ? b[2] - a[2]
                : a[0] != b[0] ? order.indexOf((char) ('0' + a[0])) - order.indexOf((char) ('0' + b[0])) : a[1] - b[1]);
            for (int[] w : all) if (refusal(w[0], w[1], w[2], 0, true) == null) return w;
            return null;
        }
    }

    Site site = new Site();
    Site saved = null;
    List<Site> past = new ArrayList<>();
    StringBuilder buffer = new StringBuilder();
    int[][] left = new int[0][];

    private static void need(boolean holds, String fault) {
        if (!holds) throw new Fault(fault);
    }

    private void place(int p) {
        need(p >= 0 && p < site.n, "IndexOutOfBounds");
    }

    private void change() {
        past.add(site.copy());
        if (past.size() > 8) past.remove(0);
    }

    private void toWork(int what, int place, int level, int cls, boolean taken) {
        int[] no = site.refusal(what, place, level, cls, taken);
        if (no != null) {
            left = new int[][] {{what, place}, no};
            throw new Fault("UnsupportedOperation");
        }
        change();
        site.change(what, place, site.levelOf(what, place, level, taken), cls, taken);
    }

    private int setOf(int kind, int place) {
        int set = 0;
        for (int l = 1; l <= 6; l++) if (site.has(kind, place, l)) set |= 1 << l;
        return set;
    }

    private int perform() {
        String text = buffer.toString();
        buffer.setLength(0);
        String command = "-?(?:e[0-9]|[btl][0-9]\\.[0-9]|d[0-9]\\.[0-9](?:\\*[0-9])?)";
        Pattern whole = Pattern.compile(command + "(?:;" + command + ")*", Pattern.DOTALL);
        if (!whole.matcher(text).matches()) {
            int ok = 0;
            for (int end = 1; end <= text.length(); end++) {
                Matcher m = whole.matcher(text.substring(0, end));
                if (m.matches() || m.hitEnd()) ok = end;
                else break;
            }
            return -100 - ok;
        }
        Site trial = site.copy();
        String[] parts = text.split(";");
        for (int i = 0; i < parts.length; i++) {
            boolean taken = parts[i].startsWith("-");
            String c = taken ? parts[i].substring(1) : parts[i];
            int what = c.charAt(0) == 'e' ? 0 : "dbtl".indexOf(c.charAt(0)) + 2;
            int place = c.charAt(1) - '0';
            int level = what == 0 ? 0 : c.charAt(3) - '0';
            int cls = c.indexOf('*') > 0 ? c.charAt(5) - '0' : 1;
            need(place < site.n, "UnsupportedOperation");
            need(what != 2 || taken || cls >= 1 && cls <= 4, "UnsupportedOperation");
            int[] no = trial.refusal(what, place, level, cls, taken);
            if (no != null) left = new int[][] {{9, i}, {what, place}, no};
            need(no == null, "UnsupportedOperation");
            trial.change(what, place, trial.levelOf(what, place, level, taken), cls, taken);
        }
        change();
        site = trial;
        return parts.length;
    }

    private int bay(int b, int what) {
        place(b);
        need(what >= 0 && what <= 5, "IllegalArgument");
        if (what == 0) return site.height[b];
        if (what == 1) return setOf(2, b);
        if (what == 2) return setOf(3, b);
        if (what == 3) return setOf(5, b);
        int set = 0;
        Map<String, Integer> steps = site.steps();
        for (int l = 1; l <= site.height[b]; l++) {
            if (what == 4 ? l == site.height[b] || site.braced(b, l) : steps.containsKey(b + "." + l)) set |= 1 << l;
        }
        return set;
    }

    private int post(int p, int what) {
        place(p);
        need(what >= 0 && what <= 4, "IllegalArgument");
        int tall = site.tall(p);
        if (what == 0) return tall;
        if (what == 1) return setOf(4, p);
        if (what == 2) return site.load(p);
        int set = 0;
        for (int l = 1; l <= tall; l++) {
            List<Integer> ties = new ArrayList<>(site.ties(p));
            boolean was = ties.remove((Integer) l);
            if (what == 3 && was && !site.held(ties, tall)) set |= 1 << l;
            ties.add(l);
            if (what == 4 && !was && site.held(ties, tall + 1)) set |= 1 << l;
        }
        return set;
    }

    private int leastTies(int height) {
        need(height >= 0 && height <= 12, "IllegalArgument");
        for (int count = 0; count <= height; count++) {
            for (int set = 0; set < 1 << height; set++) {
                if (Integer.bitCount(set) != count) continue;
                List<Integer> ties = new ArrayList<>();
                for (int l = 1; l <= height; l++) if ((set >> (l - 1) & 1) == 1) ties.add(l);
                if (site.held(ties, height)) return set * 2;
            }
        }
        throw new IllegalStateException();
    }

    private int missing(int kind, int height) {
        need(kind == 0 || kind == 1, "IllegalArgument");
        need(height >= 0 && height <= 6, "IllegalArgument");
        Site built = site.copy();
        int needed = 0;
        for (int b = 0; b < site.n; b++) {
            while (built.height[b] < height) {
                int before = built.placed(kind);
                built.height[b]++;
                needed += built.placed(kind) - before;
            }
        }
        return Math.max(0, needed - site.yard[kind]);
    }

    private int work(int i, int part) {
        need(part >= 0 && part <= 2, "IllegalArgument");
        List<int[]> works = site.dismantled();
        need(i >= 0 && i < works.size() && works.get(i) != null, "IndexOutOfBounds");
        return works.get(i)[part];
    }

    private int dismantling() {
        List<int[]> works = site.dismantled();
        need(!works.contains(null), "NoSuchElement");
        return works.size();
    }

    private int account(int what) {
        need(what >= 0 && what <= 17, "IllegalArgument");
        if (what < 6) return site.placed(what);
        if (what < 12) return site.yard[what - 6];
        return new int[] {site.n, site.works, site.steps().size(), site.rule[0], site.rule[1], site.rule[2]}[what - 12];
    }

    private int set(int what, int value) {
        int[] least = {1, 0, 100};
        int[] most = {4, 3, 2000};
        need(what >= 0 && what <= 2 && value >= least[what] && value <= most[what], "IllegalArgument");
        Site trial = site.copy();
        trial.rule[what] = value;
        need(trial.unheld() < 0 && trial.unbraced() < 0 && trial.overloaded() < 0, "IllegalState");
        change();
        int was = site.rule[what];
        site.rule[what] = value;
        return was;
    }

    private int stock(int kind, int count) {
        need(kind >= 0 && kind <= 5, "IndexOutOfBounds");
        need(count >= 0 && count <= 999, "IllegalArgument");
        change();
        int was = site.yard[kind];
        site.yard[kind] = count;
        return was;
    }

    private int start(int bays) {
        need(bays >= 4 && bays <= 10, "IllegalArgument");
        int was = site.n;
        site = new Site();
        site.n = bays;
        past.clear();
        return was;
    }

    private int piece(int kind, int place, int level, boolean taken) {
        need(kind >= (taken ? 2 : 3) && kind <= 5, "IllegalArgument");
        place(place);
        toWork(kind, place, level, 1, taken);
        return site.placed(kind);
    }

    private int level(int bay, boolean taken) {
        place(bay);
        toWork(0, bay, 0, 1, taken);
        return site.height[bay];
    }

    private int deck(int bay, int level, int cls) {
        place(bay);
        need(cls >= 1 && cls <= 4, "IllegalArgument");
        toWork(2, bay, level, cls, false);
        return Integer.bitCount(setOf(2, bay));
    }

    private int refusal(int what, int place, int level, boolean taken) {
        need(what == 0 || what >= 2 && what <= 5, "IllegalArgument");
        place(place);
        int[] no = site.refusal(what, place, level, 1, taken);
        return no == null ? 0 : no[0];
    }

    private int steps(int bay, int level) {
        place(bay);
        Integer steps = site.steps().get(bay + "." + level);
        need(steps != null, "NoSuchElement");
        return steps;
    }

    private int load(int bay, int level) {
        place(bay);
        need(site.has(2, bay, level), "NoSuchElement");
        return site.decks.get(bay + "." + level);
    }

    private int feed(char letter) {
        need(buffer.length() < 80, "IllegalState");
        buffer.append(letter);
        return buffer.length();
    }

    private int undo() {
        need(!past.isEmpty(), "IllegalState");
        site = past.remove(past.size() - 1);
        return past.size();
    }

    private int restore() {
        need(saved != null, "IllegalState");
        site = saved.copy();
        past.clear();
        return site.n;
    }

    private int save() {
        saved = site.copy();
        return site.n;
    }

    private int report(int level, boolean isDetail) {
        need(level >= 0 && level < left.length, "NoSuchElement");
        return left[level][isDetail ? 1 : 0];
    }

    private float use(int post) {
        place(post);
        return (float) site.load(post) / (float) site.rule[2];
    }

    private double meanClass() {
        need(!site.decks.isEmpty(), "Arithmetic");
        double sum = 0;
        for (int cls : site.decks.values()) sum += cls;
        return sum / site.decks.size();
    }

    /** The answer of a call as Script tells it. */
    String answer(String name, Object[] v) {
        try {
            return String.valueOf(call(name, v));
        } catch (Fault e) {
            return e.getMessage();
        }
    }

    private static int num(Object[] v, int i) {
        return (Integer) v[i];
    }

    private Object call(String name, Object[] v) {
        switch (name) {
            case "start": return start(num(v, 0));
            case "set": return set(num(v, 0), num(v, 1));
            case "stock": return stock(num(v, 0), num(v, 1));
            case "erect": return level(num(v, 0), false);
            case "lower": return level(num(v, 0), true);
            case "deck": return deck(num(v, 0), num(v, 1), num(v, 2));
            case "put": return piece(num(v, 0), num(v, 1), num(v, 2), false);
            case "take": return piece(num(v, 0), num(v, 1), num(v, 2), true);
            case "refusal": return refusal(num(v, 0), num(v, 1), num(v, 2), (Boolean) v[3]);
            case "report": return report(num(v, 0), (Boolean) v[1]);
            case "bay": return bay(num(v, 0), num(v, 1));
            case "post": return post(num(v, 0), num(v, 1));
            case "load": return load(num(v, 0), num(v, 1));
            case "steps": return steps(num(v, 0), num(v, 1));
            case "fewestTies": return Integer.bitCount(leastTies(num(v, 0)));
            case "tieLevels": return leastTies(num(v, 0));
            case "missing": return missing(num(v, 0), num(v, 1));
            case "dismantling": return dismantling();
            case "work": return work(num(v, 0), num(v, 1));
            case "account": return account(num(v, 0));
            case "use": return use(num(v, 0));
            case "meanClass": return meanClass();
            case "feed": return feed((Character) v[0]);
            case "perform": return perform();
            case "undo": return undo();
            case "save": return save();
            case "restore": return restore();
            default: throw new IllegalArgumentException(name + Arrays.toString(v));
        }
    }
}
