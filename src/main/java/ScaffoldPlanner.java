import java.util.NoSuchElementException;

/** A planner of scaffolds around a building, as its document says, promise by promise. */
public final class ScaffoldPlanner {
    private static final int FEWEST_BAYS = 4;
    private static final int MOST_BAYS = 10;
    private static final int TOP_LEVEL = 6;
    /** The places for levels in a row, with one for the ground, so that a level is its own index. */
    private static final int LEVELS = 7;
    private static final int MOST_DECKS = 60;
    /** Sixty levels of bays, each with a deck, a brace, a ladder and itself, and sixty ties. */
    private static final int MOST_WORKS = 300;
    private static final int WORK_PARTS = 3;

    private static final int KINDS = 6;
    private static final int POSTS = 0;
    private static final int LEDGERS = 1;
    private static final int DECKS = 2;
    private static final int BRACES = 3;
    private static final int TIES = 4;
    private static final int LADDERS = 5;
    /** What work is about if it is about a level of a bay and not about a piece of a kind. */
    private static final int BAY_LEVEL = 0;

    private static final int MOST_IN_YARD = 999;
    private static final int FIRST_IN_YARD = 60;
    private static final int GREATEST_CLASS = 4;
    private static final int LEDGERS_OF_LEVEL = 2;
    private static final int LOAD_OF_LEVEL = 20;
    private static final int LOAD_OF_CLASS = 50;

    private static final int RULES = 3;
    private static final int SPAN = 0;
    private static final int OVERHANG = 1;
    private static final int CAPACITY = 2;
    private static final int[] FIRST_RULES = {3, 2, 600};
    private static final int[] LEAST_RULES = {1, 0, 100};
    private static final int[] GREATEST_RULES = {4, 3, 2000};

    private static final int[] DISMANTLING_ORDER = {LADDERS, TIES, BRACES, DECKS, BAY_LEVEL};
    private static final int TALLEST_SOUGHT = 12;
    private static final int CHANGES_KEPT = 8;
    private static final int MOST_LETTERS = 80;
    private static final int SYNTAX_ERROR = -100;
    private static final int COMMAND_IN_REPORT = 9;
    private static final int NONE = -1;

    private final Plan plan = new Plan();
    /** A copy on which changes are tried, so that the plan stays as it is if they are refused. */
    private final Plan draft = new Plan();
    private final Plan savedPlan = new Plan();
    private boolean isSaved = false;
    private final History history = new History();
    private final Ways ways = new Ways();
    private final Judge judge = new Judge();
    private final Work job = new Work();
    private final Report lastReport = new Report();
    private final Dismantler dismantler = new Dismantler();
    private final CommandText text = new CommandText();

    public ScaffoldPlanner() {
    }

    public int start(int bays) throws IllegalArgumentException {
        if (bays < FEWEST_BAYS || bays > MOST_BAYS) throw new IllegalArgumentException();
        int before = plan.bays;
        plan.begin(bays);
        history.forget();
        dismantler.isUpToDate = false;
        return before;
    }

    public int set(int what, int value) throws IllegalArgumentException, IllegalStateException {
        if (what < 0 || what >= RULES) throw new IllegalArgumentException();
        if (value < at(LEAST_RULES, what) || value > at(GREATEST_RULES, what)) throw new IllegalArgumentException();
        draft.copyFrom(plan);
        write(draft.rules, what, value);
        if (!draft.isStable()) throw new IllegalStateException();
        int before = at(plan.rules, what);
        keepChange();
        write(plan.rules, what, value);
        return before;
    }

    public int stock(int kind, int count) throws IndexOutOfBoundsException, IllegalArgumentException {
        if (kind < 0 || kind >= KINDS) throw new IndexOutOfBoundsException();
        if (count < 0 || count > MOST_IN_YARD) throw new IllegalArgumentException();
        int before = at(plan.yard, kind);
        keepChange();
        write(plan.yard, kind, count);
        return before;
    }

    public int erect(int bay) throws IndexOutOfBoundsException, UnsupportedOperationException {
        if (!plan.hasPlace(bay)) throw new IndexOutOfBoundsException();
        job.fill(BAY_LEVEL, bay, 0, false);
        if (!isJobCarriedOut()) throw new UnsupportedOperationException();
        return at(plan.heights, bay);
    }

    public int lower(int bay) throws IndexOutOfBoundsException, UnsupportedOperationException {
        if (!plan.hasPlace(bay)) throw new IndexOutOfBoundsException();
        job.fill(BAY_LEVEL, bay, 0, true);
        if (!isJobCarriedOut()) throw new UnsupportedOperationException();
        return at(plan.heights, bay);
    }

    public int deck(int bay, int level, int load)
            throws IndexOutOfBoundsException, IllegalArgumentException, UnsupportedOperationException {
        if (!plan.hasPlace(bay)) throw new IndexOutOfBoundsException();
        if (load < 1 || load > GREATEST_CLASS) throw new IllegalArgumentException();
        job.fill(DECKS, bay, level, false);
        job.loadClass = load;
        if (!isJobCarriedOut()) throw new UnsupportedOperationException();
        return Integer.bitCount(plan.levelsWith(DECKS, bay));
    }

    public int put(int kind, int place, int level)
            throws IllegalArgumentException, IndexOutOfBoundsException, UnsupportedOperationException {
        if (kind < BRACES || kind > LADDERS) throw new IllegalArgumentException();
        if (!plan.hasPlace(place)) throw new IndexOutOfBoundsException();
        job.fill(kind, place, level, false);
        if (!isJobCarriedOut()) throw new UnsupportedOperationException();
        return plan.piecesPlaced(kind);
    }

    public int take(int kind, int place, int level)
            throws IllegalArgumentException, IndexOutOfBoundsException, UnsupportedOperationException {
        if (kind < DECKS || kind > LADDERS) throw new IllegalArgumentException();
        if (!plan.hasPlace(place)) throw new IndexOutOfBoundsException();
        job.fill(kind, place, level, true);
        if (!isJobCarriedOut()) throw new UnsupportedOperationException();
        return plan.piecesPlaced(kind);
    }

    public int refusal(int what, int place, int level, boolean isTaken)
            throws IllegalArgumentException, IndexOutOfBoundsException {
        if (what != BAY_LEVEL && (what < DECKS || what > LADDERS)) throw new IllegalArgumentException();
        if (!plan.hasPlace(place)) throw new IndexOutOfBoundsException();
        job.fill(what, place, level, isTaken);
        ways.explore(plan);
        judge.examine(plan, ways, job);
        return judge.reason;
    }

    public int report(int level, boolean isDetail) throws NoSuchElementException {
        if (level < 0 || level >= lastReport.count) throw new NoSuchElementException();
        return at(isDetail ? lastReport.details : lastReport.heads, level);
    }

    public int bay(int bay, int what) throws IndexOutOfBoundsException, IllegalArgumentException {
        if (!plan.hasPlace(bay)) throw new IndexOutOfBoundsException();
        switch (what) {
            case 0: return at(plan.heights, bay);
            case 1: return plan.levelsWith(DECKS, bay);
            case 2: return plan.levelsWith(BRACES, bay);
            case 3: return plan.levelsWith(LADDERS, bay);
            case 4: return plan.bracedOrHighest(bay);
            case 5:
                ways.explore(plan);
                return at(ways.reached, bay);
            default: throw new IllegalArgumentException();
        }
    }

    public int post(int post, int what) throws IndexOutOfBoundsException, IllegalArgumentException {
        if (!plan.hasPlace(post)) throw new IndexOutOfBoundsException();
        switch (what) {
            case 0: return plan.postHeight(post);
            case 1: return plan.levelsWith(TIES, post);
            case 2: return plan.postLoad(post);
            case 3: return plan.neededTies(post);
            case 4: return plan.tiesForOneLevelMore(post);
            default: throw new IllegalArgumentException();
        }
    }

    public int load(int bay, int level) throws IndexOutOfBoundsException, NoSuchElementException {
        if (!plan.hasPlace(bay)) throw new IndexOutOfBoundsException();
        if (!plan.has(DECKS, bay, level)) throw new NoSuchElementException();
        return at(plan.classes, bay * LEVELS + level);
    }

    public int steps(int bay, int level) throws IndexOutOfBoundsException, NoSuchElementException {
        if (!plan.hasPlace(bay)) throw new IndexOutOfBoundsException();
        ways.explore(plan);
        if (!ways.isReached(bay, level)) throw new NoSuchElementException();
        return at(ways.stepsTo, bay * LEVELS + level);
    }

    public int fewestTies(int height) throws IllegalArgumentException {
        if (height < 0 || height > TALLEST_SOUGHT) throw new IllegalArgumentException();
        return Integer.bitCount(leastTieSet(height));
    }

    public int tieLevels(int height) throws IllegalArgumentException {
        if (height < 0 || height > TALLEST_SOUGHT) throw new IllegalArgumentException();
        return leastTieSet(height);
    }

    public int missing(int kind, int height) throws IllegalArgumentException {
        if (kind != POSTS && kind != LEDGERS) throw new IllegalArgumentException();
        if (height < 0 || height > TOP_LEVEL) throw new IllegalArgumentException();
        draft.copyFrom(plan);
        draft.raiseAllTo(height);
        int needed = draft.piecesPlaced(kind) - plan.piecesPlaced(kind);
        return Math.max(0, needed - at(plan.yard, kind));
    }

    public int dismantling() throws NoSuchElementException {
        dismantler.update(plan);
        if (!dismantler.isComplete) throw new NoSuchElementException();
        return dismantler.count;
    }

    public int work(int i, int part) throws IllegalArgumentException, IndexOutOfBoundsException {
        if (part < 0 || part >= WORK_PARTS) throw new IllegalArgumentException();
        dismantler.update(plan);
        if (i < 0 || i >= dismantler.count) throw new IndexOutOfBoundsException();
        return at(dismantler.parts, i * WORK_PARTS + part);
    }

    public int account(int what) throws IllegalArgumentException {
        if (what < 0 || what > 17) throw new IllegalArgumentException();
        if (what < 6) return plan.piecesPlaced(what);
        if (what < 12) return at(plan.yard, what - 6);
        if (what == 12) return plan.bays;
        if (what == 13) return plan.works;
        if (what > 14) return at(plan.rules, what - 15);
        ways.explore(plan);
        return ways.countReached();
    }

    public float use(int post) throws IndexOutOfBoundsException {
        if (!plan.hasPlace(post)) throw new IndexOutOfBoundsException();
        float capacity = (float) at(plan.rules, CAPACITY);
        return capacity > 0 ? (float) plan.postLoad(post) / capacity : 0;
    }

    public double meanClass() throws ArithmeticException {
        int decks = plan.piecesPlaced(DECKS);
        if (decks == 0) throw new ArithmeticException();
        return (double) plan.sumOfClasses() / (double) decks;
    }

    public int feed(char letter) throws IllegalStateException {
        if (text.length >= MOST_LETTERS) throw new IllegalStateException();
        text.append(letter);
        return text.length;
    }

    public int perform() throws UnsupportedOperationException {
        int error = text.errorPosition(job);
        if (error != NONE) {
            text.clear();
            return SYNTAX_ERROR - error;
        }
        int commands = carryOutCommands();
        text.clear();
        if (commands == NONE) throw new UnsupportedOperationException();
        return commands;
    }

    public int undo() throws IllegalStateException {
        if (history.count == 0) throw new IllegalStateException();
        history.takeBack(plan);
        dismantler.isUpToDate = false;
        return history.count;
    }

    public int save() {
        savedPlan.copyFrom(plan);
        isSaved = true;
        return plan.bays;
    }

    public int restore() throws IllegalStateException {
        if (!isSaved) throw new IllegalStateException();
        plan.copyFrom(savedPlan);
        history.forget();
        dismantler.isUpToDate = false;
        return plan.bays;
    }

    /** To be called ahead of each change that can be taken back. */
    private void keepChange() {
        history.keep(plan);
        dismantler.isUpToDate = false;
    }

    private boolean isJobCarriedOut() {
        ways.explore(plan);
        judge.examine(plan, ways, job);
        if (judge.reason != 0) {
            lastReport.clear();
            addRefusal();
            return false;
        }
        keepChange();
        plan.carryOut(job);
        return true;
    }

    /** Carries out the commands of a correct text, all or none; returns their number, or NONE if one is refused. */
    private int carryOutCommands() {
        draft.copyFrom(plan);
        text.position = 0;
        int number = 0;
        do {
            if (!text.isCommandRead(job)) break;
            if (!isInRange(job)) return NONE;
            ways.explore(draft);
            judge.examine(draft, ways, job);
            if (judge.reason != 0) {
                lastReport.clear();
                lastReport.add(COMMAND_IN_REPORT, number);
                addRefusal();
                return NONE;
            }
            draft.carryOut(job);
            number++;
        } while (text.isPassed(';') && number < MOST_LETTERS);
        keepChange();
        plan.copyFrom(draft);
        return number;
    }

    private void addRefusal() {
        lastReport.add(job.what, job.place);
        lastReport.add(judge.reason, judge.detail);
    }

    private boolean isInRange(Work work) {
        if (!plan.hasPlace(work.place)) return false;
        boolean isDeckPut = work.what == DECKS && !work.isTaken;
        return !isDeckPut || work.loadClass >= 1 && work.loadClass <= GREATEST_CLASS;
    }

    /** The least number among the sets of the fewest ties: sets are tried as ascending numbers. */
    private int leastTieSet(int height) {
        int span = at(plan.rules, SPAN);
        int overhang = at(plan.rules, OVERHANG);
        int best = 0;
        int fewest = height + 1;
        for (int set = 0; set < 2 << height; set += 2) {
            int ties = Integer.bitCount(set);
            if (ties < fewest && isHeld(set, height, span, overhang)) {
                best = set;
                fewest = ties;
            }
        }
        return best;
    }

    private static boolean isHeld(int ties, int height, int span, int overhang) {
        int last = 0;
        for (int level = 1; level <= height; level++) {
            if ((ties >> level & 1) == 0) continue;
            if (level - last > span) return false;
            last = level;
        }
        return height - last <= overhang;
    }

    private static int at(int[] row, int index) {
        return index >= 0 && index < row.length ? row[index] : 0;
    }

    private static void write(int[] row, int index, int value) {
        if (index >= 0 && index < row.length) row[index] = value;
    }

    /** What is to be done at a place: a level or a piece that is put or taken. */
    private static final class Work {
        int what = BAY_LEVEL;
        int place = 0;
        int level = 0;
        int loadClass = 1;
        boolean isTaken = false;

        void fill(int newWhat, int newPlace, int newLevel, boolean isNewTaken) {
            what = newWhat;
            place = newPlace;
            level = newLevel;
            loadClass = 1;
            isTaken = isNewTaken;
        }
    }

    /** The scaffold with its yard and rules, and how many works were done. */
    private static final class Plan {
        int bays = FEWEST_BAYS;
        int works = 0;
        final int[] heights = new int[MOST_BAYS];
        /** The sets of levels with pieces of a kind at a place; those of posts and ledgers stay empty. */
        final int[] levelSets = new int[KINDS * MOST_BAYS];
        /** The load class of the deck at each level of each bay, 0 without one. */
        final int[] classes = new int[MOST_BAYS * LEVELS];
        final int[] rules = new int[RULES];
        final int[] yard = new int[KINDS];

        Plan() {
            begin(FEWEST_BAYS);
        }

        void begin(int newBays) {
            bays = newBays;
            works = 0;
            for (int i = 0; i < heights.length; i++) heights[i] = 0;
            for (int i = 0; i < levelSets.length; i++) levelSets[i] = 0;
            for (int i = 0; i < classes.length; i++) classes[i] = 0;
            for (int i = 0; i < rules.length; i++) rules[i] = at(FIRST_RULES, i);
            for (int i = 0; i < yard.length; i++) yard[i] = FIRST_IN_YARD;
        }

        void copyFrom(Plan other) {
            bays = other.bays;
            works = other.works;
            for (int i = 0; i < heights.length; i++) heights[i] = at(other.heights, i);
            for (int i = 0; i < levelSets.length; i++) levelSets[i] = at(other.levelSets, i);
            for (int i = 0; i < classes.length; i++) classes[i] = at(other.classes, i);
            for (int i = 0; i < rules.length; i++) rules[i] = at(other.rules, i);
            for (int i = 0; i < yard.length; i++) yard[i] = at(other.yard, i);
        }

        boolean hasPlace(int place) {
            return place >= 0 && place < bays;
        }

        int placeBefore(int place) {
            return place == 0 ? bays - 1 : place - 1;
        }

        int placeAfter(int place) {
            return place == bays - 1 ? 0 : place + 1;
        }

        int levelsWith(int kind, int place) {
            int index = kind * MOST_BAYS + place;
            return index >= 0 && index < levelSets.length ? levelSets[index] : 0;
        }

        boolean has(int kind, int place, int level) {
            return level >= 1 && level <= TOP_LEVEL && (levelsWith(kind, place) >> level & 1) != 0;
        }

        int postHeight(int post) {
            return Math.max(at(heights, placeBefore(post)), at(heights, post));
        }

        int heightFor(Work work) {
            return work.what == TIES ? postHeight(work.place) : at(heights, work.place);
        }

        /** How many posts reach a level of a bay by this bay alone: they change with it if it is the highest one. */
        int postsByLevel(int bay, int level) {
            int left = at(heights, placeBefore(bay)) < level ? 1 : 0;
            int right = at(heights, placeAfter(bay)) < level ? 1 : 0;
            return left + right;
        }

        boolean isTiedByLevel(int bay, int level) {
            int after = placeAfter(bay);
            boolean isLeftTied = at(heights, placeBefore(bay)) < level && has(TIES, bay, level);
            boolean isRightTied = at(heights, after) < level && has(TIES, after, level);
            return isLeftTied || isRightTied;
        }

        /** Does work that is not refused. */
        void carryOut(Work work) {
            int sign = work.isTaken ? -1 : 1;
            if (work.what == BAY_LEVEL) {
                int posts = postsByLevel(work.place, work.level);
                write(heights, work.place, at(heights, work.place) + sign);
                supply(POSTS, -sign * posts);
                supply(LEDGERS, -sign * LEDGERS_OF_LEVEL);
            } else {
                int set = levelsWith(work.what, work.place) ^ 1 << work.level;
                write(levelSets, work.what * MOST_BAYS + work.place, set);
                supply(work.what, -sign);
            }
            if (work.what == DECKS) {
                write(classes, work.place * LEVELS + work.level, work.isTaken ? 0 : work.loadClass);
            }
            works++;
        }

        private void supply(int kind, int count) {
            write(yard, kind, at(yard, kind) + count);
        }

        void raiseAllTo(int height) {
            for (int bay = 0; bay < bays; bay++) write(heights, bay, Math.max(height, at(heights, bay)));
        }

        int piecesPlaced(int kind) {
            int count = 0;
            for (int place = 0; place < bays; place++) {
                if (kind == POSTS) count += postHeight(place);
                else if (kind == LEDGERS) count += LEDGERS_OF_LEVEL * at(heights, place);
                else count += Integer.bitCount(levelsWith(kind, place));
            }
            return count;
        }

        int sumOfClasses() {
            int sum = 0;
            for (int i = 0; i < classes.length; i++) sum += classes[i];
            return sum;
        }

        int bracedOrHighest(int bay) {
            int height = at(heights, bay);
            int braces = levelsWith(BRACES, placeBefore(bay)) | levelsWith(BRACES, bay)
                | levelsWith(BRACES, placeAfter(bay));
            int set = 0;
            for (int level = 1; level <= height; level++) {
                if (level == height || (braces >> level & 1) != 0) set |= 1 << level;
            }
            return set;
        }

        int postLoad(int post) {
            int left = placeBefore(post) * LEVELS;
            int right = post * LEVELS;
            int sum = 0;
            for (int level = 1; level <= TOP_LEVEL; level++) {
                sum += at(classes, left + level) + at(classes, right + level);
            }
            return LOAD_OF_LEVEL * postHeight(post) + LOAD_OF_CLASS * sum;
        }

        private boolean isHeldBy(int ties, int height) {
            return isHeld(ties, height, at(rules, SPAN), at(rules, OVERHANG));
        }

        int neededTies(int post) {
            int ties = levelsWith(TIES, post);
            int height = postHeight(post);
            int set = 0;
            for (int level = 1; level <= height; level++) {
                int tie = 1 << level;
                if ((ties & tie) != 0 && !isHeldBy(ties ^ tie, height)) set |= tie;
            }
            return set;
        }

        int tiesForOneLevelMore(int post) {
            int ties = levelsWith(TIES, post);
            int height = postHeight(post);
            int set = 0;
            for (int level = 1; level <= height; level++) {
                int tie = 1 << level;
                if ((ties & tie) == 0 && isHeldBy(ties | tie, height + 1)) set |= tie;
            }
            return set;
        }

        /** The lowest post that is not held, or NONE. */
        int lowestUnheldPost() {
            for (int post = 0; post < bays; post++) {
                if (!isHeldBy(levelsWith(TIES, post), postHeight(post))) return post;
            }
            return NONE;
        }

        /** The lowest bay with a level that should be braced and is not, or NONE. */
        int lowestUnbracedBay() {
            for (int bay = 0; bay < bays; bay++) {
                int allLevels = (2 << at(heights, bay)) - 2;
                if (bracedOrHighest(bay) != allLevels) return bay;
            }
            return NONE;
        }

        /** The lowest post whose load is greater than the capacity, or NONE. */
        int lowestOverloadedPost() {
            int capacity = at(rules, CAPACITY);
            for (int post = 0; post < bays; post++) {
                if (postLoad(post) > capacity) return post;
            }
            return NONE;
        }

        boolean isStable() {
            return lowestUnheldPost() == NONE && lowestUnbracedBay() == NONE && lowestOverloadedPost() == NONE;
        }
    }

    /** The decks that one can come to from the ground, and in how many steps. */
    private static final class Ways {
        final int[] reached = new int[MOST_BAYS];
        final int[] stepsTo = new int[MOST_BAYS * LEVELS];
        /** The decks that are reached with the latest step, and those with the step after it. */
        private final int[] latest = new int[MOST_BAYS];
        private final int[] following = new int[MOST_BAYS];

        void explore(Plan plan) {
            for (int bay = 0; bay < MOST_BAYS; bay++) {
                write(reached, bay, 0);
                write(following, bay, plan.levelsWith(LADDERS, bay) & plan.levelsWith(DECKS, bay) & 1 << 1);
            }
            // each step but the last one reaches another deck
            for (int step = 1; step <= MOST_DECKS; step++) {
                if (!isStepTaken(step)) return;
                for (int bay = 0; bay < plan.bays; bay++) write(following, bay, nextDecks(plan, bay));
            }
        }

        private boolean isStepTaken(int step) {
            boolean isAnything = false;
            for (int bay = 0; bay < MOST_BAYS; bay++) {
                int decks = at(following, bay);
                write(latest, bay, decks);
                write(reached, bay, at(reached, bay) | decks);
                if (decks == 0) continue;
                isAnything = true;
                for (int level = 1; level <= TOP_LEVEL; level++) {
                    if ((decks >> level & 1) != 0) write(stepsTo, bay * LEVELS + level, step);
                }
            }
            return isAnything;
        }

        private int nextDecks(Plan plan, int bay) {
            int ladders = plan.levelsWith(LADDERS, bay);
            int here = at(latest, bay);
            int up = here << 1 & ladders;
            int down = (here & ladders) >> 1;
            int beside = at(latest, plan.placeBefore(bay)) | at(latest, plan.placeAfter(bay));
            return (up | down | beside) & plan.levelsWith(DECKS, bay) & ~at(reached, bay);
        }

        boolean isReached(int bay, int level) {
            return level >= 1 && level <= TOP_LEVEL && (at(reached, bay) >> level & 1) != 0;
        }

        int countReached() {
            int count = 0;
            for (int bay = 0; bay < MOST_BAYS; bay++) count += Integer.bitCount(at(reached, bay));
            return count;
        }
    }

    /** Finds the first reason for which work is refused. */
    private static final class Judge {
        /** 0 if the work is not refused. */
        int reason = 0;
        int detail = 0;
        private final Plan trial = new Plan();

        /** Judges work in a plan whose ways are explored; gives the work its level if it is about a level of a bay. */
        void examine(Plan plan, Ways ways, Work work) {
            reason = 0;
            detail = 0;
            examineLevel(plan, work);
            if (reason == 0 && work.what != BAY_LEVEL) examinePlace(plan, work);
            if (reason == 0 && work.what == LADDERS && !work.isTaken) examineDecksOfLadder(plan, work);
            if (reason == 0 && work.what == DECKS && work.isTaken) examineLaddersOfDeck(plan, work);
            if (reason == 0 && work.what == BAY_LEVEL && work.isTaken) examinePiecesOfLevel(plan, work);
            if (reason == 0) examineStanding(plan, ways, work);
            if (reason == 0 && !work.isTaken) examineYard(plan, work);
            if (reason != 0) return;
            trial.copyFrom(plan);
            trial.carryOut(work);
            examineLowest(6, trial.lowestUnheldPost());
            examineLowest(7, trial.lowestUnbracedBay());
            examineLowest(8, trial.lowestOverloadedPost());
        }

        private void refuse(int newReason, int newDetail) {
            reason = newReason;
            detail = newDetail;
        }

        private void examineLevel(Plan plan, Work work) {
            int height = plan.heightFor(work);
            if (work.what == BAY_LEVEL) work.level = work.isTaken ? height : height + 1;
            int highest = work.what == BAY_LEVEL && !work.isTaken ? TOP_LEVEL : height;
            if (work.level < 1 || work.level > highest) refuse(1, height);
        }

        private void examinePlace(Plan plan, Work work) {
            if (plan.has(work.what, work.place, work.level) != work.isTaken) refuse(2, work.level);
        }

        private void examineDecksOfLadder(Plan plan, Work work) {
            int below = work.level - 1;
            if (below > 0 && !plan.has(DECKS, work.place, below)) refuse(3, below);
            else if (!plan.has(DECKS, work.place, work.level)) refuse(3, work.level);
        }

        private void examineLaddersOfDeck(Plan plan, Work work) {
            int above = work.level + 1;
            if (plan.has(LADDERS, work.place, work.level)) refuse(3, work.level);
            else if (plan.has(LADDERS, work.place, above)) refuse(3, above);
        }

        private void examinePiecesOfLevel(Plan plan, Work work) {
            if (plan.has(DECKS, work.place, work.level)) refuse(3, DECKS);
            else if (plan.has(BRACES, work.place, work.level)) refuse(3, BRACES);
            else if (plan.isTiedByLevel(work.place, work.level)) refuse(3, TIES);
            else if (plan.has(LADDERS, work.place, work.level)) refuse(3, LADDERS);
        }

        private void examineStanding(Plan plan, Ways ways, Work work) {
            int below = work.level - 1;
            if (below == 0 || ways.isReached(work.place, below)) return;
            if (work.what == TIES && ways.isReached(plan.placeBefore(work.place), below)) return;
            refuse(4, work.level);
        }

        private void examineYard(Plan plan, Work work) {
            if (work.what != BAY_LEVEL) {
                if (at(plan.yard, work.what) < 1) refuse(5, work.what);
                return;
            }
            if (at(plan.yard, POSTS) < plan.postsByLevel(work.place, work.level)) refuse(5, POSTS);
            else if (at(plan.yard, LEDGERS) < LEDGERS_OF_LEVEL) refuse(5, LEDGERS);
        }

        private void examineLowest(int newReason, int lowest) {
            if (reason == 0 && lowest != NONE) refuse(newReason, lowest);
        }
    }

    /** What the latest refusal leaves: pairs of numbers, one for each level. */
    private static final class Report {
        int count = 0;
        final int[] heads = new int[3];
        final int[] details = new int[3];

        void clear() {
            count = 0;
        }

        void add(int head, int detail) {
            write(heads, count, head);
            write(details, count, detail);
            count++;
        }
    }

    /** Takes a copy of the scaffold away, work by work, and keeps the works. */
    private static final class Dismantler {
        int count = 0;
        boolean isComplete = false;
        /** False if the scaffold may have changed since it was dismantled here. */
        boolean isUpToDate = false;
        final int[] parts = new int[MOST_WORKS * WORK_PARTS];
        private final Plan site = new Plan();
        private final Ways ways = new Ways();
        private final Judge judge = new Judge();
        private final Work work = new Work();

        /** Dismantles the plan's scaffold anew if it may have changed. */
        void update(Plan plan) {
            if (isUpToDate) return;
            site.copyFrom(plan);
            int candidates = TOP_LEVEL * DISMANTLING_ORDER.length * site.bays;
            for (count = 0; count < MOST_WORKS; count++) {
                ways.explore(site);
                int candidate = 0;
                while (candidate < candidates && !isDone(candidate)) candidate++;
                if (candidate == candidates) break;
            }
            isComplete = site.piecesPlaced(LEDGERS) == 0;
            isUpToDate = true;
        }

        /** Does the candidate if there is such work and it is not refused; candidates are numbered in their order. */
        private boolean isDone(int candidate) {
            int sorts = DISMANTLING_ORDER.length;
            if (sorts == 0 || site.bays == 0) return false;
            int place = candidate % site.bays;
            int what = at(DISMANTLING_ORDER, candidate / site.bays % sorts);
            int level = TOP_LEVEL - candidate / site.bays / sorts;
            boolean isThere = what == BAY_LEVEL ? at(site.heights, place) == level : site.has(what, place, level);
            if (!isThere) return false;
            work.fill(what, place, level, true);
            judge.examine(site, ways, work);
            if (judge.reason != 0) return false;
            site.carryOut(work);
            write(parts, count * WORK_PARTS, what);
            write(parts, count * WORK_PARTS + 1, place);
            write(parts, count * WORK_PARTS + 2, level);
            return true;
        }
    }

    /** The plans ahead of the latest changes. */
    private static final class History {
        int count = 0;
        /** Where the next plan is kept; the oldest one gives way. */
        private int next = 0;
        private final Plan[] plans = new Plan[CHANGES_KEPT];

        History() {
            for (int i = 0; i < plans.length; i++) plans[i] = new Plan();
        }

        void forget() {
            count = 0;
        }

        void keep(Plan plan) {
            Plan kept = planAt(next);
            if (kept == null) return;
            kept.copyFrom(plan);
            next = next == CHANGES_KEPT - 1 ? 0 : next + 1;
            count = Math.min(count + 1, CHANGES_KEPT);
        }

        void takeBack(Plan plan) {
            int last = next == 0 ? CHANGES_KEPT - 1 : next - 1;
            Plan kept = planAt(last);
            if (kept == null || count == 0) return;
            plan.copyFrom(kept);
            next = last;
            count--;
        }

        private Plan planAt(int i) {
            return i >= 0 && i < plans.length ? plans[i] : null;
        }
    }

    /** The input buffer, which is read as commands from a position on. */
    private static final class CommandText {
        int length = 0;
        int position = 0;
        private final char[] letters = new char[MOST_LETTERS];

        void append(char letter) {
            if (length < 0 || length >= letters.length) return;
            letters[length] = letter;
            length++;
        }

        void clear() {
            length = 0;
            position = 0;
        }

        /** The position of the first character that cannot continue a text, or NONE if the text is correct. */
        int errorPosition(Work scratch) {
            position = 0;
            for (int commands = 0; commands <= MOST_LETTERS; commands++) {
                if (!isCommandRead(scratch)) return position;
                if (position == length) return NONE;
                if (!isPassed(';')) return position;
            }
            return position;
        }

        /** Reads a command into work; if there is none, the position is where it cannot go on. */
        boolean isCommandRead(Work work) {
            boolean isTaken = isPassed('-');
            int what = whatOf(letter());
            if (what == NONE) return false;
            position++;
            int place = readDigit();
            if (place == NONE) return false;
            work.fill(what, place, 0, isTaken);
            if (what == BAY_LEVEL) return true;
            if (!isPassed('.')) return false;
            work.level = readDigit();
            if (work.level == NONE) return false;
            if (what == DECKS && isPassed('*')) work.loadClass = readDigit();
            return work.loadClass != NONE;
        }

        boolean isPassed(char sign) {
            if (letter() != sign) return false;
            position++;
            return true;
        }

        private int readDigit() {
            int letter = letter();
            if (letter < '0' || letter > '9') return NONE;
            position++;
            return letter - '0';
        }

        /** The character at the position, or NONE at the end. */
        private int letter() {
            if (position < 0 || position >= length || position >= letters.length) return NONE;
            return letters[position];
        }

        private static int whatOf(int letter) {
            switch (letter) {
                case 'e': return BAY_LEVEL;
                case 'd': return DECKS;
                case 'b': return BRACES;
                case 't': return TIES;
                case 'l': return LADDERS;
                default: return NONE;
            }
        }
    }
}
